section
/-! dev only: the definitions of parts 03 to 20, word for word -/
def jj_len : List Nat := [4, 5, 5, 7, 3, 7, 4, 4]
def jj_byt : List (List Int32) := [[98, 111, 108, 116], [112, 108, 97, 105, 110], [112, 105, 99, 107, 121], [103, 108, 117, 116, 116, 111, 110], [102, 97, 116], [99, 97, 109, 112, 104, 111, 114], [109, 111, 111, 110], [114, 97, 116, 101]]
def jn {α β : Type} (body : (β → α) → α) (k : β → α) : α := body k
def lt {α β : Type} (e : α) (f : α → β) : β := f e
abbrev M2 : Type := Nat → Nat → Int32
def bnd {α : Type} (i : Int32) (n : Nat) (o : Option α) : Option α := if i < 0 ∨ n ≤ i.toNatClampNeg then none else o
def zb {α : Type} (v : Int32) (o : Option α) : Option α := if v = 0 ∨ v = 1 then o else none
abbrev M3 : Type := Nat → M2
def fX4_within (i0 : Int32) (i1 : Int32) (i2 : Int32)  : Option (Int32) :=
  if i0 < i1 then
    some (0 : Int32)
  else
    if i2 < i0 then
      some (0 : Int32)
    else
      some (1 : Int32)
def fX4_isBale (i0 : Int32)  : Option (Int32) :=
  (fX4_within i0 (0 : Int32) (2 : Int32)).bind fun r1 =>
  zb r1 (some r1)
def fX4_isSheet (i0 : Int32)  : Option (Int32) :=
  (fX4_within i0 (0 : Int32) (3 : Int32)).bind fun r1 =>
  zb r1 (some r1)
def fX4_isLane (i0 : Int32)  : Option (Int32) :=
  (fX4_within i0 (0 : Int32) (2 : Int32)).bind fun r1 =>
  zb r1 (some r1)
def fX4_mostOfTrait (i0 : Int32)  : Option (Int32) :=
  if i0 = 0 then
    some (3 : Int32)
  else
    if i0 = 1 then
      some (5 : Int32)
    else
      if i0 = 2 then
        some (9 : Int32)
      else
        some (2 : Int32)
def fX4_commonDivisor_L3  (k33 : Int64 → Option (Int64)) : Nat → Int64 → Int64 → Int32 → Option (Int64)
  | 0, _, _, _ => none
  | n_ + 1, w1, w2, v3 =>
    if (200 : Int32) ≤ v3 then
      k33 w1
    else
      if (lg_cmp w2 (0 : Int64)) = 0 then
        k33 w1
      else
        if w2 = 0 then none else
        lt ((w1 - w1 / w2 * w2)) fun y4 =>
        lt (v3 + (1 : Int32)) fun x5 =>
        fX4_commonDivisor_L3 k33 n_ w2 y4 x5
def fX4_commonDivisor (l0 : Int64) (l2 : Int64)  : Option (Int64) :=
  fX4_commonDivisor_L3 
    (fun p8 =>
      some p8)
    400 l0 l2 (0 : Int32)
def fX5_in (l0 : Int64) (l2 : Int64) (l4 : Int64)  : Option (Int32) :=
  if (lg_cmp l0 l2) < 0 then
    some (0 : Int32)
  else
    if 0 < (lg_cmp l0 l4) then
      some (0 : Int32)
    else
      some (1 : Int32)
def fX5_flag (i0 : Int32)  : Option (Int32) :=
  if i0 = 0 then
    some (0 : Int32)
  else
    some (1 : Int32)
def fX5_isBale (i0 : Int32)  : Option (Int32) :=
  (fX5_in (i0.toInt64) (0 : Int64) (2 : Int64)).bind fun r1 =>
  zb r1 (some r1)
def fX5_isPart (i0 : Int32)  : Option (Int32) :=
  (fX5_in (i0.toInt64) (0 : Int64) (1 : Int64)).bind fun r1 =>
  zb r1 (some r1)
def fX5_mostOf (i0 : Int32)  : Option (Int32) :=
  if i0 = 0 then
    some (3 : Int32)
  else
    if i0 = (1 : Int32) then
      some (5 : Int32)
    else
      if i0 = (2 : Int32) then
        some (9 : Int32)
      else
        some (2 : Int32)
def fX5_common_L6  (k31 : Int64 → Option (Int64)) : Nat → Int64 → Int64 → Option (Int64)
  | 0, _, _ => none
  | n_ + 1, w1, w2 =>
    if (lg_cmp w2 (0 : Int64)) = 0 then
      k31 w1
    else
      if w2 = 0 then none else
      lt ((w1 - w1 / w2 * w2)) fun y3 =>
      fX5_common_L6 k31 n_ w2 y3
def fX5_common (l0 : Int64) (l2 : Int64)  : Option (Int64) :=
  fX5_common_L6 
    (fun p5 =>
      some p5)
    400 l0 l2
def fX5_told (l0 : Int64) (l2 : Int64) (i4 : Int32)  : Option (Int64) :=
  (fX5_common l2 l0).bind fun r1 =>
  if i4 = 0 then
    if r1 = 0 then none else
    some (l0 / r1)
  else
    if r1 = 0 then none else
    some (l2 / r1)
def fX5_isSheet (i0 : Int32) (i1 : Int32)  : Option (Int32) :=
  (fX5_in (i0.toInt64) (0 : Int64) (3 : Int64)).bind fun r1 =>
  if r1 = 0 then
    some (0 : Int32)
  else
    (fX5_in (i1.toInt64) (0 : Int64) (2 : Int64)).bind fun r2 =>
    if r2 = 0 then
      some (0 : Int32)
    else
      some (1 : Int32)
def fX3_mostOfNumber (i0 : Int32) (i1 : Int32)  : Option (Int32) :=
  if i0 = 5 then
    some (4 : Int32)
  else
    if i0 = 6 then
      some (3 : Int32)
    else
      if i0 = 7 then
        some (9 : Int32)
      else
        (fX4_mostOfTrait (i1 + (1 : Int32))).bind fun r4 =>
        some r4
def fX3_isLetter (i0 : Int32)  : Option (Int32) :=
  if i0 < (97 : Int32) then
    some (0 : Int32)
  else
    if (122 : Int32) < i0 then
      some (0 : Int32)
    else
      some (1 : Int32)
def fX3_isFigure (i0 : Int32)  : Option (Int32) :=
  if i0 < (48 : Int32) then
    some (0 : Int32)
  else
    if (57 : Int32) < i0 then
      some (0 : Int32)
    else
      some (1 : Int32)
def fJ6_bitCount_0f7a4 (i0 : Int32)  : Option (Int32) :=
  lt ((i0 - (((i0.toUInt32 >>> ((1 : Int32).toUInt32 &&& Int32.toUInt32 31)).toInt32) &&& (1431655765 : Int32)))) fun x1 =>
  lt (((x1 &&& (858993459 : Int32)) + (((x1.toUInt32 >>> ((2 : Int32).toUInt32 &&& Int32.toUInt32 31)).toInt32) &&& (858993459 : Int32)))) fun x2 =>
  lt (((x2 + ((x2.toUInt32 >>> ((4 : Int32).toUInt32 &&& Int32.toUInt32 31)).toInt32)) &&& (252645135 : Int32))) fun x3 =>
  lt ((x3 + ((x3.toUInt32 >>> ((8 : Int32).toUInt32 &&& Int32.toUInt32 31)).toInt32))) fun x4 =>
  lt ((x4 + ((x4.toUInt32 >>> ((16 : Int32).toUInt32 &&& Int32.toUInt32 31)).toInt32))) fun x5 =>
  some (x5 &&& (63 : Int32))
def fX5_firstDraft_L2  (k21 : M2 → Option (M2)) : Nat → Int32 → M2 → Option (M2)
  | 0, _, _ => none
  | n_ + 1, v1, S2 =>
    if (62 : Int32) ≤ v1 then
      k21 S2
    else
      bnd v1 62 <|
      lt (va_up S2 5 (upd (S2 5) v1.toNatClampNeg (0 : Int32))) fun S3 =>
      lt (v1 + (1 : Int32)) fun x4 =>
      fX5_firstDraft_L2 k21 n_ x4 S3
def fX5_firstDraft  (S : M2) : Option (M2) :=
  fX5_firstDraft_L2 
    (fun p6 =>
      bnd (47 : Int32) 62 <|
      lt (va_up p6 5 (upd (p6 5) (47 : Int32).toNatClampNeg (1 : Int32))) fun S7 =>
      lt (va_up S7 6 (fun _ => (0 : Int32))) fun S8 =>
      lt (va_up S8 7 (fun _ => (0 : Int32))) fun S9 =>
      lt (va_up S9 8 (fun _ => (0 : Int32))) fun S10 =>
      lt (va_up S10 9 (fun _ => (0 : Int32))) fun S11 =>
      lt (va_up S11 10 (fun _ => (-4 : Int32))) fun S12 =>
      some S12)
    400 (0 : Int32) S
def fX5_keepDraft_L2  (k26 : M2 → Option (M2)) : Nat → Int32 → M2 → Option (M2)
  | 0, _, _ => none
  | n_ + 1, v1, S2 =>
    if (62 : Int32) ≤ v1 then
      k26 S2
    else
      bnd v1 62 <|
      bnd v1 186 <|
      lt (va_up S2 0 (upd (S2 0) v1.toNatClampNeg (S2 5 v1.toNatClampNeg))) fun S3 =>
      lt (v1 + (1 : Int32)) fun x4 =>
      fX5_keepDraft_L2 k26 n_ x4 S3
def fX5_keepDraft_L44  (k77 : M2 → Option (M2)) : Nat → Int32 → M2 → Option (M2)
  | 0, _, _ => none
  | n_ + 1, v9, S10 =>
    if (S10 3 0) ≤ v9 then
      k77 S10
    else
      bnd (((6 : Int32) * v9) + (3 : Int32)) 186 <|
      lt (va_up S10 0 (upd (S10 0) (((6 : Int32) * v9) + (3 : Int32)).toNatClampNeg (((S10 9 0) >>> (v9 &&& 31)) &&& (1 : Int32)))) fun S11 =>
      lt (v9 + (1 : Int32)) fun x12 =>
      fX5_keepDraft_L44 k77 n_ x12 S11
def fX5_keepDraft  (S : M2) : Option (M2) :=
  fX5_keepDraft_L2 
    (fun p6 =>
      lt (va_up p6 3 (fun _ => (p6 6 0))) fun S7 =>
      lt (va_up S7 4 (fun _ => (S7 7 0))) fun S8 =>
      fX5_keepDraft_L44 
        (fun p14 =>
          bnd (0 : Int32) 2 <|
          lt (va_up p14 2 (upd (p14 2) (0 : Int32).toNatClampNeg (0 : Int32))) fun S15 =>
          bnd (1 : Int32) 2 <|
          lt (va_up S15 2 (upd (S15 2) (1 : Int32).toNatClampNeg (0 : Int32))) fun S16 =>
          some S16)
        400 (0 : Int32) S8)
    400 (0 : Int32) S
def fX5_feed (i1 : Int32) (S : M2) : Option (Int32 × M2) :=
  (fX5_in (i1.toInt64) (0 : Int64) (127 : Int64)).bind fun r1 =>
  if r1 = 0 then
    some ((-1 : Int32), S)
  else
    if (S 12 0) = (160 : Int32) then
      some ((-3 : Int32), S)
    else
      bnd (S 12 0) 160 <|
      lt (va_up S 11 (upd (S 11) (S 12 0).toNatClampNeg i1)) fun S2 =>
      lt (va_up S2 12 (fun _ => ((S2 12 0) + (1 : Int32)))) fun S3 =>
      some ((S3 12 0), S3)
def fX5_end (i1 : Int32) (S : M2) : Option (Int32 × M2) :=
  (fX5_in (i1.toInt64) (0 : Int64) ((S 12 0).toInt64)).bind fun r1 =>
  if r1 = 0 then
    some ((-1 : Int32), S)
  else
    lt ((S 12 0)) fun x2 =>
    lt (va_up S 12 (fun _ => i1)) fun S3 =>
    some (x2, S3)
def fX5_needs (i1 : Int32) (i2 : Int32) (S : M2) : Option (M2) :=
  if i1 = 0 then
    if (S 17 0) = 0 then
      lt (va_up S 17 (fun _ => i2)) fun S1 =>
      lt (va_up S1 18 (fun _ => (S1 14 0))) fun S2 =>
      some S2
    else
      some S
  else
    some S
def fX5_byteAt (i1 : Int32) (S : M2) : Option (Int32) :=
  if (S 12 0) ≤ i1 then
    some (-1 : Int32)
  else
    bnd i1 160 <|
    some (S 11 i1.toNatClampNeg)
def fX5_is (i1 : Int32) (i2 : Int32) (i3 : Int32) (i4 : Int32) (S : M2) : Option (Int32) :=
  if ((S 13 0) - (S 14 0)) = i1 then
    (fX5_byteAt (S 14 0) S).bind fun r1 =>
    if r1 = i2 then
      (fX5_byteAt ((S 14 0) + (1 : Int32)) S).bind fun r2 =>
      if r2 = i3 then
        (fX5_byteAt ((S 14 0) + (2 : Int32)) S).bind fun r3 =>
        if r3 = i4 then
          some (1 : Int32)
        else
          some (0 : Int32)
      else
        some (0 : Int32)
    else
      some (0 : Int32)
  else
    some (0 : Int32)
def fX5_ends (i1 : Int32) (i2 : Int32) (i3 : Int32) (i4 : Int32) (S : M2) : Option (Int32) :=
  (fX5_byteAt ((S 14 0) + (3 : Int32)) S).bind fun r1 =>
  if r1 = i1 then
    jn (α := Option (Int32)) (β := Unit) (fun j2 =>
      if i2 = 0 then
        j2 ()
      else
        (fX5_byteAt ((S 14 0) + (4 : Int32)) S).bind fun r3 =>
        if r3 = i2 then
          j2 ()
        else
          some (0 : Int32)) (fun _ => 
      jn (α := Option (Int32)) (β := Unit) (fun j7 =>
        if i3 = 0 then
          j7 ()
        else
          (fX5_byteAt ((S 14 0) + (5 : Int32)) S).bind fun r8 =>
          if r8 = i3 then
            j7 ()
          else
            some (0 : Int32)) (fun _ => 
        if i4 = 0 then
          some (1 : Int32)
        else
          (fX5_byteAt ((S 14 0) + (6 : Int32)) S).bind fun r12 =>
          if r12 = i4 then
            some (1 : Int32)
          else
            some (0 : Int32)))
  else
    some (0 : Int32)
def fX5_lineNow  (S : M2) : Option (Int32) :=
  (fX5_is (5 : Int32) (112 : Int32) (108 : Int32) (97 : Int32) S).bind fun r1 =>
  jn (α := Option (Int32)) (β := Unit) (fun j2 =>
    if r1 = 0 then
      j2 ()
    else
      (fX5_ends (105 : Int32) (110 : Int32) (0 : Int32) (0 : Int32) S).bind fun r3 =>
      if r3 = 0 then
        j2 ()
      else
        some (0 : Int32)) (fun _ => 
    (fX5_is (5 : Int32) (112 : Int32) (105 : Int32) (99 : Int32) S).bind fun r7 =>
    jn (α := Option (Int32)) (β := Unit) (fun j8 =>
      if r7 = 0 then
        j8 ()
      else
        (fX5_ends (107 : Int32) (121 : Int32) (0 : Int32) (0 : Int32) S).bind fun r9 =>
        if r9 = 0 then
          j8 ()
        else
          some (1 : Int32)) (fun _ => 
      (fX5_is (7 : Int32) (103 : Int32) (108 : Int32) (117 : Int32) S).bind fun r13 =>
      jn (α := Option (Int32)) (β := Unit) (fun j14 =>
        if r13 = 0 then
          j14 ()
        else
          (fX5_ends (116 : Int32) (116 : Int32) (111 : Int32) (110 : Int32) S).bind fun r15 =>
          if r15 = 0 then
            j14 ()
          else
            some (2 : Int32)) (fun _ => 
        (fX5_is (3 : Int32) (102 : Int32) (97 : Int32) (116 : Int32) S).bind fun r19 =>
        if r19 = 0 then
          (fX5_is (4 : Int32) (98 : Int32) (111 : Int32) (108 : Int32) S).bind fun r20 =>
          jn (α := Option (Int32)) (β := Unit) (fun j21 =>
            if r20 = 0 then
              j21 ()
            else
              (fX5_ends (116 : Int32) (0 : Int32) (0 : Int32) (0 : Int32) S).bind fun r22 =>
              if r22 = 0 then
                j21 ()
              else
                some (4 : Int32)) (fun _ => 
            (fX5_is (7 : Int32) (99 : Int32) (97 : Int32) (109 : Int32) S).bind fun r26 =>
            jn (α := Option (Int32)) (β := Unit) (fun j27 =>
              if r26 = 0 then
                j27 ()
              else
                (fX5_ends (112 : Int32) (104 : Int32) (111 : Int32) (114 : Int32) S).bind fun r28 =>
                if r28 = 0 then
                  j27 ()
                else
                  some (5 : Int32)) (fun _ => 
              (fX5_is (4 : Int32) (109 : Int32) (111 : Int32) (111 : Int32) S).bind fun r32 =>
              jn (α := Option (Int32)) (β := Unit) (fun j33 =>
                if r32 = 0 then
                  j33 ()
                else
                  (fX5_ends (110 : Int32) (0 : Int32) (0 : Int32) (0 : Int32) S).bind fun r34 =>
                  if r34 = 0 then
                    j33 ()
                  else
                    some (6 : Int32)) (fun _ => 
                (fX5_is (4 : Int32) (114 : Int32) (97 : Int32) (116 : Int32) S).bind fun r38 =>
                if r38 = 0 then
                  some (-4 : Int32)
                else
                  (fX5_ends (101 : Int32) (0 : Int32) (0 : Int32) (0 : Int32) S).bind fun r39 =>
                  if r39 = 0 then
                    some (-4 : Int32)
                  else
                    some (7 : Int32))))
        else
          some (3 : Int32))))
def fX5_next_L8  (k34 : M2 → Option (M2)) : Nat → M2 → Option (M2)
  | 0, _ => none
  | n_ + 1, S1 =>
    (fX5_byteAt (S1 13 0) S1).bind fun r2 =>
    if r2 = (32 : Int32) then
      lt (va_up S1 13 (fun _ => ((S1 13 0) + (1 : Int32)))) fun S3 =>
      fX5_next_L8 k34 n_ S3
    else
      k34 S1
def fX5_next_L140  (k217 : M2 → Option (M2)) : Nat → M2 → Option (M2)
  | 0, _ => none
  | n_ + 1, S19 =>
    (fX5_byteAt (S19 13 0) S19).bind fun r20 =>
    (fX5_in (r20.toInt64) (48 : Int64) (57 : Int64)).bind fun r21 =>
    if r21 = 0 then
      k217 S19
    else
      jn (α := Option (M2)) (β := Int32) (fun j22 =>
        if (2 : Int32) ≤ ((S19 13 0) - (S19 14 0)) then
          j22 (S19 16 0)
        else
          (fX5_byteAt (S19 13 0) S19).bind fun r23 =>
          j22 ((((10 : Int32) * (S19 16 0)) + r23) - (48 : Int32))) (fun p25 => 
        lt (va_up S19 16 (fun _ => p25)) fun S26 =>
        lt (va_up S26 13 (fun _ => ((S26 13 0) + (1 : Int32)))) fun S27 =>
        fX5_next_L140 k217 n_ S27)
def fX5_next_L82  (k274 : M2 → Option (M2)) : Nat → M2 → Option (M2)
  | 0, _ => none
  | n_ + 1, S37 =>
    (fX5_byteAt (S37 13 0) S37).bind fun r38 =>
    (fX5_in (r38.toInt64) (97 : Int64) (122 : Int64)).bind fun r39 =>
    if r39 = 0 then
      k274 S37
    else
      lt (va_up S37 13 (fun _ => ((S37 13 0) + (1 : Int32)))) fun S40 =>
      fX5_next_L82 k274 n_ S40
def fX5_next  (S : M2) : Option (M2) :=
  if (S 17 0) ≤ 0 then
    fX5_next_L8 
      (fun p5 =>
        lt (va_up p5 14 (fun _ => (p5 13 0))) fun S6 =>
        (fX5_byteAt (S6 13 0) S6).bind fun r7 =>
        if 0 ≤ r7 then
          (fX5_in (r7.toInt64) (97 : Int64) (122 : Int64)).bind fun r8 =>
          if r8 = 0 then
            (fX5_in (r7.toInt64) (48 : Int64) (57 : Int64)).bind fun r9 =>
            if r9 = 0 then
              lt (va_up S6 15 (fun _ => (3 : Int32))) fun S10 =>
              jn (α := Option (M2)) (β := Int32) (fun j11 =>
                if r7 = (59 : Int32) then
                  j11 (1 : Int32)
                else
                  j11 (0 : Int32)) (fun p13 => 
                (fX5_needs p13 (1 : Int32) S10).bind fun q14 =>
                lt (q14) fun S15 =>
                lt (va_up S15 13 (fun _ => ((S15 13 0) + (1 : Int32)))) fun S16 =>
                some S16)
            else
              lt (va_up S6 15 (fun _ => (2 : Int32))) fun S17 =>
              lt (va_up S17 16 (fun _ => (0 : Int32))) fun S18 =>
              fX5_next_L140 
                (fun p29 =>
                  if (2 : Int32) < ((p29 13 0) - (p29 14 0)) then
                    (fX5_needs (0 : Int32) (1 : Int32) p29).bind fun q30 =>
                    lt (q30) fun S31 =>
                    some S31
                  else
                    (fX5_needs (1 : Int32) (1 : Int32) p29).bind fun q32 =>
                    lt (q32) fun S33 =>
                    some S33)
                400 S18
          else
            lt (va_up S6 15 (fun _ => (1 : Int32))) fun S36 =>
            fX5_next_L82 
              (fun p42 =>
                some p42)
              400 S36
        else
          lt (va_up S6 15 (fun _ => (0 : Int32))) fun S44 =>
          some S44)
      400 S
  else
    some S
def fX5_looked (i1 : Int32) (i2 : Int32) (S : M2) : Option (Int32 × M2) :=
  jn (α := Option (Int32 × M2)) (β := M2) (fun j1 =>
    if (S 17 0) = 0 then
      jn (α := Option (Int32 × M2)) (β := Int32) (fun j2 =>
        if (S 15 0) = (2 : Int32) then
          j2 (1 : Int32)
        else
          j2 (0 : Int32)) (fun p4 => 
        (fX5_needs p4 (2 : Int32) S).bind fun q5 =>
        lt (q5) fun S6 =>
        j1 S6)
    else
      j1 S) (fun p8 => 
    jn (α := Option (Int32 × M2)) (β := M2) (fun j9 =>
      if (p8 17 0) = 0 then
        (fX5_in ((p8 16 0).toInt64) (i1.toInt64) (i2.toInt64)).bind fun r10 =>
        (fX5_needs r10 (3 : Int32) p8).bind fun q11 =>
        lt (q11) fun S12 =>
        j9 S12
      else
        j9 p8) (fun p14 => 
      if (p14 17 0) = 0 then
        some ((p14 16 0), p14)
      else
        some ((0 : Int32), p14)))
def fX5_readNumber (i1 : Int32) (i2 : Int32) (S : M2) : Option (Int32 × M2) :=
  (fX5_looked i1 i2 S).bind fun q1 =>
  lt (q1.2) fun S2 =>
  (fX5_next  S2).bind fun q3 =>
  lt (q3) fun S4 =>
  some (q1.1, S4)
def fX5_readBolt_L55 (x1 : Int32) (S10 : M2) (k102 : Int32 → Option (M2)) : Nat → Int32 → Int32 → Option (M2)
  | 0, _, _ => none
  | n_ + 1, v11, v12 =>
    if (S10 6 0) ≤ v12 then
      k102 v11
    else
      bnd (((6 : Int32) * v12) + (4 : Int32)) 62 <|
      bnd (x1 + (4 : Int32)) 62 <|
      jn (α := Option (M2)) (β := Int32) (fun j13 =>
        if (S10 5 (((6 : Int32) * v12) + (4 : Int32)).toNatClampNeg) = (S10 5 (x1 + (4 : Int32)).toNatClampNeg) then
          j13 (1 : Int32)
        else
          j13 (0 : Int32)) (fun p15 => 
        (fX5_flag p15).bind fun r16 =>
        lt ((v11 + r16)) fun x17 =>
        lt (v12 + (1 : Int32)) fun x18 =>
        fX5_readBolt_L55 x1 S10 k102 n_ x17 x18)
def fX5_readBolt  (S : M2) : Option (M2) :=
  lt (((6 : Int32) * (S 6 0))) fun x1 =>
  (fX5_readNumber (0 : Int32) (5 : Int32) S).bind fun q2 =>
  lt (q2.2) fun S3 =>
  bnd (x1 + (0 : Int32)) 62 <|
  lt (va_up S3 5 (upd (S3 5) (x1 + (0 : Int32)).toNatClampNeg q2.1)) fun S4 =>
  (fX5_readNumber (0 : Int32) (9 : Int32) S4).bind fun q5 =>
  lt (q5.2) fun S6 =>
  bnd (x1 + (1 : Int32)) 62 <|
  lt (va_up S6 5 (upd (S6 5) (x1 + (1 : Int32)).toNatClampNeg q5.1)) fun S7 =>
  (fX5_readNumber (0 : Int32) (2 : Int32) S7).bind fun q8 =>
  lt (q8.2) fun S9 =>
  bnd (x1 + (4 : Int32)) 62 <|
  lt (va_up S9 5 (upd (S9 5) (x1 + (4 : Int32)).toNatClampNeg q8.1)) fun S10 =>
  fX5_readBolt_L55 x1 S10
    (fun p20 =>
      bnd (x1 + (5 : Int32)) 62 <|
      lt (va_up S10 5 (upd (S10 5) (x1 + (5 : Int32)).toNatClampNeg p20)) fun S21 =>
      lt (va_up S21 6 (fun _ => ((S21 6 0) + (1 : Int32)))) fun S22 =>
      some S22)
    400 (0 : Int32) (0 : Int32)
def fX5_readMoth (i1 : Int32) (S : M2) : Option (M2) :=
  lt (((30 : Int32) + ((4 : Int32) * (S 7 0)))) fun x1 =>
  bnd (x1 + (0 : Int32)) 62 <|
  lt (va_up S 5 (upd (S 5) (x1 + (0 : Int32)).toNatClampNeg i1)) fun S2 =>
  (fX5_readNumber (0 : Int32) (5 : Int32) S2).bind fun q3 =>
  lt (q3.2) fun S4 =>
  bnd (x1 + (1 : Int32)) 62 <|
  lt (va_up S4 5 (upd (S4 5) (x1 + (1 : Int32)).toNatClampNeg q3.1)) fun S5 =>
  (fX5_readNumber (0 : Int32) (9 : Int32) S5).bind fun q6 =>
  lt (q6.2) fun S7 =>
  bnd (x1 + (2 : Int32)) 62 <|
  lt (va_up S7 5 (upd (S7 5) (x1 + (2 : Int32)).toNatClampNeg q6.1)) fun S8 =>
  (fX5_readNumber (0 : Int32) (2 : Int32) S8).bind fun q9 =>
  lt (q9.2) fun S10 =>
  bnd (x1 + (3 : Int32)) 62 <|
  lt (va_up S10 5 (upd (S10 5) (x1 + (3 : Int32)).toNatClampNeg q9.1)) fun S11 =>
  lt (va_up S11 7 (fun _ => ((S11 7 0) + (1 : Int32)))) fun S12 =>
  some S12
def fX5_readCamphor  (S : M2) : Option (M2) :=
  (fX5_looked (0 : Int32) (4 : Int32) S).bind fun q1 =>
  lt (q1.2) fun S2 =>
  if (S2 17 0) = 0 then
    jn (α := Option (M2)) (β := Int32) (fun j5 =>
      if (((S2 9 0) >>> (q1.1 &&& 31)) &&& (1 : Int32)) = 0 then
        j5 (1 : Int32)
      else
        j5 (0 : Int32)) (fun p7 => 
      (fX5_needs p7 (4 : Int32) S2).bind fun q8 =>
      lt (q8) fun S9 =>
      lt (va_up S9 9 (fun _ => ((S9 9 0) ||| ((1 : Int32) <<< (q1.1 &&& 31))))) fun S10 =>
      if q1.1 ≤ (S10 10 0) then
        lt (va_up S10 10 (fun _ => (S10 10 0))) fun S11 =>
        (fX5_next  S11).bind fun q12 =>
        lt (q12) fun S13 =>
        some S13
      else
        lt (va_up S10 10 (fun _ => q1.1)) fun S14 =>
        (fX5_next  S14).bind fun q15 =>
        lt (q15) fun S16 =>
        some S16)
  else
    (fX5_next  S2).bind fun q3 =>
    lt (q3) fun S4 =>
    some S4
def fX5_readLineOf (i1 : Int32) (S : M2) : Option (M2) :=
  if i1 = 4 then
    (fX5_readBolt  S).bind fun q2 =>
    lt (q2) fun S3 =>
    some S3
  else
    if i1 = 5 then
      (fX5_readCamphor  S).bind fun q5 =>
      lt (q5) fun S6 =>
      some S6
    else
      if i1 = 6 then
        (fX5_readNumber (0 : Int32) (3 : Int32) S).bind fun q8 =>
        lt (q8.2) fun S9 =>
        bnd (46 : Int32) 62 <|
        lt (va_up S9 5 (upd (S9 5) (46 : Int32).toNatClampNeg q8.1)) fun S10 =>
        some S10
      else
        if i1 = 7 then
          (fX5_readNumber (1 : Int32) (9 : Int32) S).bind fun q12 =>
          lt (q12.2) fun S13 =>
          bnd (47 : Int32) 62 <|
          lt (va_up S13 5 (upd (S13 5) (47 : Int32).toNatClampNeg q12.1)) fun S14 =>
          some S14
        else
          (fX5_readMoth i1 S).bind fun q15 =>
          lt (q15) fun S16 =>
          some S16
def fX5_readLine  (S : M2) : Option (M2) :=
  jn (α := Option (M2)) (β := Int32) (fun j1 =>
    if (S 15 0) = (1 : Int32) then
      (fX5_lineNow  S).bind fun r2 =>
      j1 r2
    else
      j1 (-4 : Int32)) (fun p4 => 
    jn (α := Option (M2)) (β := Int32) (fun j5 =>
      if p4 = (-4 : Int32) then
        j5 (0 : Int32)
      else
        j5 (1 : Int32)) (fun p7 => 
      (fX5_needs p7 (2 : Int32) S).bind fun q8 =>
      lt (q8) fun S9 =>
      jn (α := Option (M2)) (β := Int32) (fun j10 =>
        if p4 = (4 : Int32) then
          if (5 : Int32) ≤ (S9 6 0) then
            j10 (0 : Int32)
          else
            j10 (1 : Int32)
        else
          jn (α := Option (M2)) (β := Unit) (fun j11 =>
            if (4 : Int32) < p4 then
              j11 ()
            else
              if (4 : Int32) ≤ (S9 7 0) then
                j10 (0 : Int32)
              else
                j11 ()) (fun _ => 
            j10 (1 : Int32))) (fun p17 => 
        (fX5_needs p17 (5 : Int32) S9).bind fun q18 =>
        lt (q18) fun S19 =>
        jn (α := Option (M2)) (β := M2) (fun j20 =>
          if (S19 17 0) = 0 then
            if p4 < (6 : Int32) then
              j20 S19
            else
              jn (α := Option (M2)) (β := Int32) (fun j21 =>
                if (((S19 8 0) >>> (p4 &&& 31)) &&& (1 : Int32)) = 0 then
                  j21 (1 : Int32)
                else
                  j21 (0 : Int32)) (fun p23 => 
                (fX5_needs p23 (4 : Int32) S19).bind fun q24 =>
                lt (q24) fun S25 =>
                lt (va_up S25 8 (fun _ => ((S25 8 0) ||| ((1 : Int32) <<< (p4 &&& 31))))) fun S26 =>
                j20 S26)
          else
            j20 S19) (fun p29 => 
          (fX5_next  p29).bind fun q30 =>
          lt (q30) fun S31 =>
          if (S31 17 0) ≤ 0 then
            (fX5_readLineOf p4 S31).bind fun q32 =>
            lt (q32) fun S33 =>
            if (S33 17 0) = 0 then
              jn (α := Option (M2)) (β := Int32) (fun j36 =>
                if (S33 15 0) = (3 : Int32) then
                  j36 (1 : Int32)
                else
                  j36 (0 : Int32)) (fun p38 => 
                (fX5_needs p38 (2 : Int32) S33).bind fun q39 =>
                lt (q39) fun S40 =>
                (fX5_next  S40).bind fun q41 =>
                lt (q41) fun S42 =>
                some S42)
            else
              (fX5_next  S33).bind fun q34 =>
              lt (q34) fun S35 =>
              some S35
          else
            some S31))))
def fX5_text_L20  (k44 : (Int32 × M2) → Option (Int32 × M2)) : Nat → Int32 → M2 → Option (Int32 × M2)
  | 0, _, _ => none
  | n_ + 1, v7, S8 =>
    if (S8 17 0) = 0 then
      if (S8 15 0) = 0 then
        k44 (v7, S8)
      else
        (fX5_readLine  S8).bind fun q9 =>
        lt (q9) fun S10 =>
        lt (v7 + (1 : Int32)) fun x11 =>
        fX5_text_L20 k44 n_ x11 S10
    else
      k44 (v7, S8)
def fX5_text  (S : M2) : Option (Int32 × M2) :=
  lt (va_up S 17 (fun _ => (0 : Int32))) fun S1 =>
  lt (va_up S1 13 (fun _ => (0 : Int32))) fun S2 =>
  (fX5_firstDraft  S2).bind fun q3 =>
  lt (q3) fun S4 =>
  (fX5_next  S4).bind fun q5 =>
  lt (q5) fun S6 =>
  fX5_text_L20 
    (fun p14 =>
      jn (α := Option (Int32 × M2)) (β := M2) (fun j15 =>
        if (p14.2 17 0) = 0 then
          jn (α := Option (Int32 × M2)) (β := Int32) (fun j16 =>
            if (p14.2 6 0) ≤ (p14.2 10 0) then
              j16 (0 : Int32)
            else
              j16 (1 : Int32)) (fun p18 => 
            (fX5_needs p18 (6 : Int32) p14.2).bind fun q19 =>
            lt (q19) fun S20 =>
            j15 S20)
        else
          j15 p14.2) (fun p22 => 
        lt (va_up p22 12 (fun _ => (0 : Int32))) fun S23 =>
        if (S23 17 0) ≤ 0 then
          (fX5_keepDraft  S23).bind fun q24 =>
          lt (q24) fun S25 =>
          some (p14.1, S25)
        else
          some (((-10 : Int32) - (S23 18 0)), S23)))
    400 (0 : Int32) S6
def fX5_fault  (S : M2) : Option (Int32) :=
  some (S 17 0)
def fX5_isBolt (i1 : Int32) (S : M2) : Option (Int32) :=
  (fX5_in (i1.toInt64) (0 : Int64) (((S 3 0) - (1 : Int32)).toInt64)).bind fun r1 =>
  zb r1 (some r1)
def fX5_isMoth (i1 : Int32) (S : M2) : Option (Int32) :=
  (fX5_in (i1.toInt64) (0 : Int64) (((S 4 0) - (1 : Int32)).toInt64)).bind fun r1 =>
  zb r1 (some r1)
def fX5_starts_L2  (k26 : M2 → Option (M2)) : Nat → Int32 → M2 → Option (M2)
  | 0, _, _ => none
  | n_ + 1, v1, S2 =>
    if (62 : Int32) ≤ v1 then
      k26 S2
    else
      bnd v1 186 <|
      bnd v1 62 <|
      lt (va_up S2 1 (upd (S2 1) v1.toNatClampNeg (S2 0 v1.toNatClampNeg))) fun S3 =>
      lt (v1 + (1 : Int32)) fun x4 =>
      fX5_starts_L2 k26 n_ x4 S3
def fX5_starts  (S : M2) : Option (M2) :=
  fX5_starts_L2 
    (fun p6 =>
      some p6)
    400 (0 : Int32) S
def fX5_settles_L2  (k26 : M2 → Option (M2)) : Nat → Int32 → M2 → Option (M2)
  | 0, _, _ => none
  | n_ + 1, v1, S2 =>
    if (62 : Int32) ≤ v1 then
      k26 S2
    else
      bnd v1 62 <|
      bnd v1 186 <|
      lt (va_up S2 0 (upd (S2 0) v1.toNatClampNeg (S2 1 v1.toNatClampNeg))) fun S3 =>
      lt (v1 + (1 : Int32)) fun x4 =>
      fX5_settles_L2 k26 n_ x4 S3
def fX5_settles  (S : M2) : Option (M2) :=
  fX5_settles_L2 
    (fun p6 =>
      some p6)
    400 (0 : Int32) S
def fX5_of (i1 : Int32) (i2 : Int32) (S : M2) : Option (Int32) :=
  bnd (((6 : Int32) * i1) + i2) 62 <|
  some (S 1 (((6 : Int32) * i1) + i2).toNatClampNeg)
def fX5_becomesOf (i1 : Int32) (i2 : Int32) (i3 : Int32) (S : M2) : Option (M2) :=
  bnd (((6 : Int32) * i1) + i2) 62 <|
  lt (va_up S 1 (upd (S 1) (((6 : Int32) * i1) + i2).toNatClampNeg i3)) fun S1 =>
  some S1
def fX5_mothOf (i1 : Int32) (i2 : Int32) (S : M2) : Option (Int32) :=
  bnd (((30 : Int32) + ((4 : Int32) * i1)) + i2) 62 <|
  some (S 1 (((30 : Int32) + ((4 : Int32) * i1)) + i2).toNatClampNeg)
def fX5_liesIn_L4 (S : M2) (i1 : Int32) (k39 : Int32 → Option (Int32)) : Nat → Int32 → Int32 → Option (Int32)
  | 0, _, _ => none
  | n_ + 1, v1, v2 =>
    if (S 3 0) ≤ v2 then
      k39 v1
    else
      (fX5_of v2 (4 : Int32) S).bind fun r3 =>
      jn (α := Option (Int32)) (β := Int32) (fun j4 =>
        if r3 = i1 then
          j4 (1 : Int32)
        else
          j4 (0 : Int32)) (fun p6 => 
        (fX5_flag p6).bind fun r7 =>
        lt ((v1 + r7)) fun x8 =>
        lt (v2 + (1 : Int32)) fun x9 =>
        fX5_liesIn_L4 S i1 k39 n_ x8 x9)
def fX5_liesIn (i1 : Int32) (S : M2) : Option (Int32) :=
  fX5_liesIn_L4 S i1
    (fun p11 =>
      some p11)
    400 (0 : Int32) (0 : Int32)
def fX5_boltAt_L6 (S : M2) (i1 : Int32) (i2 : Int32) (k50 : Int32 → Option (Int32)) : Nat → Int32 → Int32 → Option (Int32)
  | 0, _, _ => none
  | n_ + 1, v1, v2 =>
    if (S 3 0) ≤ v2 then
      k50 v1
    else
      (fX5_of v2 (4 : Int32) S).bind fun r3 =>
      jn (α := Option (Int32)) (β := Int32) (fun j5 =>
        jn (α := Option (Int32)) (β := Unit) (fun j4 =>
          if r3 = i1 then
            (fX5_of v2 (5 : Int32) S).bind fun r6 =>
            if r6 = i2 then
              j5 v2
            else
              j4 ()
          else
            j4 ()) (fun _ => 
          j5 v1)) (fun p10 => 
        lt (v2 + (1 : Int32)) fun x11 =>
        fX5_boltAt_L6 S i1 i2 k50 n_ p10 x11)
def fX5_boltAt (i1 : Int32) (i2 : Int32) (S : M2) : Option (Int32) :=
  fX5_boltAt_L6 S i1 i2
    (fun p13 =>
      some p13)
    400 (-4 : Int32) (0 : Int32)
def fX5_appetite (i1 : Int32) (S : M2) : Option (Int32) :=
  (fX5_mothOf i1 (2 : Int32) S).bind fun r1 =>
  bnd (46 : Int32) 62 <|
  lt ((r1 + (S 1 (46 : Int32).toNatClampNeg))) fun x2 =>
  (fX5_mothOf i1 (0 : Int32) S).bind fun r3 =>
  if r3 = 1 then
    if x2 ≤ 0 then
      some (0 : Int32)
    else
      some (x2 - (1 : Int32))
  else
    if r3 = 2 then
      some ((2 : Int32) * x2)
    else
      if r3 = 3 then
        if (2 : Int32) = 0 then none else
        some (x2 / (2 : Int32))
      else
        some x2
def fX5_doesLike (i1 : Int32) (i2 : Int32) (S : M2) : Option (Int32) :=
  (fX5_of i2 (0 : Int32) S).bind fun r1 =>
  (fX5_mothOf i1 (1 : Int32) S).bind fun r2 =>
  lt ((r1 - r2)) fun x3 =>
  (fX5_mothOf i1 (0 : Int32) S).bind fun r4 =>
  if r4 = (2 : Int32) then
    some (1 : Int32)
  else
    if r4 = (1 : Int32) then
      if x3 = 0 then
        some (1 : Int32)
      else
        some (0 : Int32)
    else
      (fX5_in (x3.toInt64) (-1 : Int64) (1 : Int64)).bind fun r5 =>
      if r5 = 0 then
        some (0 : Int32)
      else
        some (1 : Int32)
def fX5_eatsNow_L23 (i1 : Int32) (r3 : Int32) (k131 : (Int32 × M2) → Option (Int32 × M2)) : Nat → Int32 → Int32 → Int32 → M2 → Option (Int32 × M2)
  | 0, _, _, _, _ => none
  | n_ + 1, v4, v5, v6, S7 =>
    if r3 ≤ v6 then
      k131 (v5, S7)
    else
      (fX5_mothOf i1 (3 : Int32) S7).bind fun r8 =>
      (fX5_boltAt r8 v6 S7).bind fun r9 =>
      (fX5_of r9 (3 : Int32) S7).bind fun r10 =>
      if r10 = (1 : Int32) then
        some (v5, S7)
      else
        (fX5_doesLike i1 r9 S7).bind fun r11 =>
        jn (α := Option (Int32 × M2)) (β := Int32 × Int32 × M2) (fun j12 =>
          if r11 = 0 then
            j12 (v4, v5, S7)
          else
            (fX5_of r9 (1 : Int32) S7).bind fun r13 =>
            (fX5_of r9 (2 : Int32) S7).bind fun r14 =>
            lt ((r13 - r14)) fun x15 =>
            jn (α := Option (Int32 × M2)) (β := Int32) (fun j16 =>
              if x15 ≤ v4 then
                j16 x15
              else
                j16 v4) (fun p18 => 
              (fX5_of r9 (2 : Int32) S7).bind fun r19 =>
              (fX5_becomesOf r9 (2 : Int32) (r19 + p18) S7).bind fun q20 =>
              lt (q20) fun S21 =>
              lt ((v4 - p18)) fun x22 =>
              lt ((v5 + p18)) fun x23 =>
              j12 (x22, x23, S21))) (fun p25 => 
          lt (v6 + (1 : Int32)) fun x26 =>
          fX5_eatsNow_L23 i1 r3 k131 n_ p25.1 p25.2.1 x26 p25.2.2)
def fX5_eatsNow (i1 : Int32) (S : M2) : Option (Int32 × M2) :=
  (fX5_appetite i1 S).bind fun r1 =>
  (fX5_mothOf i1 (3 : Int32) S).bind fun r2 =>
  (fX5_liesIn r2 S).bind fun r3 =>
  fX5_eatsNow_L23 i1 r3
    (fun p29 =>
      some (p29.1, p29.2))
    400 r1 (0 : Int32) (0 : Int32) S
def fX5_nightGoes_L2 (i1 : Int32) (k31 : M2 → Option (M2)) : Nat → Int32 → M2 → Option (M2)
  | 0, _, _ => none
  | n_ + 1, v1, S2 =>
    if (S2 4 0) ≤ v1 then
      k31 S2
    else
      jn (α := Option (M2)) (β := M2) (fun j3 =>
        if ((i1 >>> (v1 &&& 31)) &&& (1 : Int32)) = (1 : Int32) then
          (fX5_eatsNow v1 S2).bind fun q4 =>
          lt (q4.2) fun S5 =>
          j3 S5
        else
          j3 S2) (fun p7 => 
        lt (v1 + (1 : Int32)) fun x8 =>
        fX5_nightGoes_L2 i1 k31 n_ x8 p7)
def fX5_nightGoes (i1 : Int32) (S : M2) : Option (M2) :=
  fX5_nightGoes_L2 i1
    (fun p10 =>
      bnd (46 : Int32) 62 <|
      if (4 : Int32) = 0 then none else
      bnd (46 : Int32) 62 <|
      lt (va_up p10 1 (upd (p10 1) (46 : Int32).toNatClampNeg (((p10 1 (46 : Int32).toNatClampNeg) + (1 : Int32)) - ((p10 1 (46 : Int32).toNatClampNeg) + (1 : Int32)) / (4 : Int32) * (4 : Int32)))) fun S11 =>
      bnd (48 : Int32) 62 <|
      bnd (48 : Int32) 62 <|
      lt (va_up S11 1 (upd (S11 1) (48 : Int32).toNatClampNeg ((S11 1 (48 : Int32).toNatClampNeg) + (1 : Int32)))) fun S12 =>
      some S12)
    400 (0 : Int32) S
def fX5_everyMoth  (S : M2) : Option (Int32) :=
  some (((1 : Int32) <<< ((S 4 0) &&& 31)) - (1 : Int32))
def fX5_nightsGo_L2 (i1 : Int32) (k21 : M2 → Option (M2)) : Nat → Int32 → M2 → Option (M2)
  | 0, _, _ => none
  | n_ + 1, v1, S2 =>
    if i1 ≤ v1 then
      k21 S2
    else
      (fX5_everyMoth  S2).bind fun r3 =>
      (fX5_nightGoes r3 S2).bind fun q4 =>
      lt (q4) fun S5 =>
      lt (v1 + (1 : Int32)) fun x6 =>
      fX5_nightsGo_L2 i1 k21 n_ x6 S5
def fX5_nightsGo (i1 : Int32) (S : M2) : Option (M2) :=
  fX5_nightsGo_L2 i1
    (fun p8 =>
      some p8)
    400 (0 : Int32) S
def fX5_dutyOf_L11 (S : M2) (i1 : Int32) (r1 : Int32) (k82 : Int32 → Option (Int32)) : Nat → Int32 → Int32 → Option (Int32)
  | 0, _, _ => none
  | n_ + 1, v2, v3 =>
    if r1 ≤ v3 then
      k82 v2
    else
      (fX5_boltAt i1 v3 S).bind fun r4 =>
      (fX5_of r4 (2 : Int32) S).bind fun r5 =>
      jn (α := Option (Int32)) (β := Int32) (fun j6 =>
        if v3 = 0 then
          j6 (0 : Int32)
        else
          (fX5_boltAt i1 (v3 - (1 : Int32)) S).bind fun r7 =>
          (fX5_of r7 (2 : Int32) S).bind fun r8 =>
          j6 r8) (fun p10 => 
        jn (α := Option (Int32)) (β := Int32) (fun j11 =>
          if p10 ≤ r5 then
            j11 p10
          else
            j11 r5) (fun p13 => 
          lt ((v2 + (r5 - p13))) fun x14 =>
          lt (v3 + (1 : Int32)) fun x15 =>
          fX5_dutyOf_L11 S i1 r1 k82 n_ x14 x15))
def fX5_dutyOf (i1 : Int32) (S : M2) : Option (Int32) :=
  (fX5_liesIn i1 S).bind fun r1 =>
  fX5_dutyOf_L11 S i1 r1
    (fun p17 =>
      bnd (47 : Int32) 62 <|
      some (p17 * (S 1 (47 : Int32).toNatClampNeg)))
    400 (0 : Int32) (0 : Int32)
def fX5_dutyAll  (S : M2) : Option (Int32) :=
  (fX5_dutyOf (0 : Int32) S).bind fun r1 =>
  (fX5_dutyOf (1 : Int32) S).bind fun r2 =>
  (fX5_dutyOf (2 : Int32) S).bind fun r3 =>
  some ((r1 + r2) + r3)
def fX5_dutyNext  (S : M2) : Option (Int32 × M2) :=
  (fX5_everyMoth  S).bind fun r1 =>
  (fX5_nightGoes r1 S).bind fun q2 =>
  lt (q2) fun S3 =>
  (fX5_dutyAll  S3).bind fun r4 =>
  some (r4, S3)
def fX5_allHoles_L4 (S : M2) (k27 : Int32 → Option (Int32)) : Nat → Int32 → Int32 → Option (Int32)
  | 0, _, _ => none
  | n_ + 1, v1, v2 =>
    if (S 3 0) ≤ v2 then
      k27 v1
    else
      (fX5_of v2 (2 : Int32) S).bind fun r3 =>
      lt ((v1 + r3)) fun x4 =>
      lt (v2 + (1 : Int32)) fun x5 =>
      fX5_allHoles_L4 S k27 n_ x4 x5
def fX5_allHoles  (S : M2) : Option (Int32) :=
  fX5_allHoles_L4 S
    (fun p7 =>
      some p7)
    400 (0 : Int32) (0 : Int32)
def fX5_isEaten (i1 : Int32) (S : M2) : Option (Int32) :=
  (fX5_of i1 (1 : Int32) S).bind fun r1 =>
  if r1 ≤ 0 then
    some (0 : Int32)
  else
    (fX5_of i1 (2 : Int32) S).bind fun r2 =>
    (fX5_of i1 (1 : Int32) S).bind fun r3 =>
    if r2 = r3 then
      some (1 : Int32)
    else
      some (0 : Int32)
def fX5_eaten_L4 (S : M2) (k31 : Int32 → Option (Int32)) : Nat → Int32 → Int32 → Option (Int32)
  | 0, _, _ => none
  | n_ + 1, v1, v2 =>
    if (S 3 0) ≤ v2 then
      k31 v1
    else
      (fX5_isEaten v2 S).bind fun r3 =>
      (fX5_flag r3).bind fun r4 =>
      lt ((v1 ||| (r4 <<< (v2 &&& 31)))) fun x5 =>
      lt (v2 + (1 : Int32)) fun x6 =>
      fX5_eaten_L4 S k31 n_ x5 x6
def fX5_eaten  (S : M2) : Option (Int32) :=
  fX5_eaten_L4 S
    (fun p8 =>
      some p8)
    400 (0 : Int32) (0 : Int32)
def fX5_rule_L8 (i1 : Int32) (S2 : M2) (k33 : Int32 → Option (Int32 × M2)) : Nat → Int32 → Int32 → Option (Int32 × M2)
  | 0, _, _ => none
  | n_ + 1, v3, v4 =>
    if (S2 3 0) ≤ v4 then
      k33 v3
    else
      (fX5_of v4 (3 : Int32) S2).bind fun r5 =>
      lt ((v3 ||| (r5 <<< (v4 &&& 31)))) fun x6 =>
      lt (v4 + (1 : Int32)) fun x7 =>
      fX5_rule_L8 i1 S2 k33 n_ x6 x7
def fX5_rule (i1 : Int32) (S : M2) : Option (Int32 × M2) :=
  (fX5_starts  S).bind fun q1 =>
  lt (q1) fun S2 =>
  fX5_rule_L8 i1 S2
    (fun p9 =>
      if i1 = 0 then
        some ((S2 3 0), S2)
      else
        if i1 = 1 then
          some ((S2 4 0), S2)
        else
          if i1 = 2 then
            bnd (((46 : Int32) + i1) - (2 : Int32)) 186 <|
            some ((S2 0 (((46 : Int32) + i1) - (2 : Int32)).toNatClampNeg), S2)
          else
            if i1 = 3 then
              bnd (((46 : Int32) + i1) - (2 : Int32)) 186 <|
              some ((S2 0 (((46 : Int32) + i1) - (2 : Int32)).toNatClampNeg), S2)
            else
              if i1 = 4 then
                bnd (((46 : Int32) + i1) - (2 : Int32)) 186 <|
                some ((S2 0 (((46 : Int32) + i1) - (2 : Int32)).toNatClampNeg), S2)
              else
                if i1 = 5 then
                  some (p9, S2)
                else
                  if i1 = 6 then
                    (fX5_eaten  S2).bind fun r17 =>
                    some (r17, S2)
                  else
                    some ((-1 : Int32), S2))
    400 (0 : Int32) (0 : Int32)
def fX5_bolt (i1 : Int32) (i2 : Int32) (S : M2) : Option (Int32) :=
  (fX5_isBolt i1 S).bind fun r1 =>
  if r1 = 0 then
    some (-1 : Int32)
  else
    (fX5_in (i2.toInt64) (0 : Int64) (5 : Int64)).bind fun r2 =>
    if r2 = 0 then
      some (-1 : Int32)
    else
      bnd (((6 : Int32) * i1) + i2) 186 <|
      some (S 0 (((6 : Int32) * i1) + i2).toNatClampNeg)
def fX5_moth_L31 (i1 : Int32) (i2 : Int32) (S4 : M2) (k62 : Int32 → Option (Int32 × M2)) : Nat → Int32 → Int32 → Option (Int32 × M2)
  | 0, _, _ => none
  | n_ + 1, v5, v6 =>
    if (S4 3 0) ≤ v6 then
      k62 v5
    else
      (fX5_doesLike i1 v6 S4).bind fun r7 =>
      (fX5_flag r7).bind fun r8 =>
      lt ((v5 ||| (r8 <<< (v6 &&& 31)))) fun x9 =>
      lt (v6 + (1 : Int32)) fun x10 =>
      fX5_moth_L31 i1 i2 S4 k62 n_ x9 x10
def fX5_moth (i1 : Int32) (i2 : Int32) (S : M2) : Option (Int32 × M2) :=
  (fX5_isMoth i1 S).bind fun r1 =>
  if r1 = 0 then
    some ((-1 : Int32), S)
  else
    (fX5_in (i2.toInt64) (0 : Int64) (5 : Int64)).bind fun r2 =>
    if r2 = 0 then
      some ((-1 : Int32), S)
    else
      (fX5_starts  S).bind fun q3 =>
      lt (q3) fun S4 =>
      fX5_moth_L31 i1 i2 S4
        (fun p12 =>
          if (4 : Int32) ≤ i2 then
            if i2 = (4 : Int32) then
              (fX5_appetite i1 S4).bind fun r13 =>
              some (r13, S4)
            else
              some (p12, S4)
          else
            (fX5_mothOf i1 i2 S4).bind fun r15 =>
            some (r15, S4))
        400 (0 : Int32) (0 : Int32)
def fX5_bale (i1 : Int32) (i2 : Int32) (S : M2) : Option (Int32 × M2) :=
  (fX5_isBale i1).bind fun r1 =>
  if r1 = 0 then
    some ((-1 : Int32), S)
  else
    (fX5_starts  S).bind fun q2 =>
    lt (q2) fun S3 =>
    if i2 = 0 then
      (fX5_liesIn i1 S3).bind fun r9 =>
      some (r9, S3)
    else
      if i2 = (1 : Int32) then
        (fX5_dutyOf i1 S3).bind fun r7 =>
        some (r7, S3)
      else
        (fX5_in ((i2 - (10 : Int32)).toInt64) (0 : Int64) (4 : Int64)).bind fun r4 =>
        if r4 = 0 then
          some ((-1 : Int32), S3)
        else
          (fX5_boltAt i1 (i2 - (10 : Int32)) S3).bind fun r5 =>
          some (r5, S3)
def fX5_becomes (i1 : Int32) (i2 : Int32) (S : M2) : Option (Int32 × M2) :=
  bnd i1 186 <|
  lt ((S 0 i1.toNatClampNeg)) fun x1 =>
  bnd i1 186 <|
  lt (va_up S 0 (upd (S 0) i1.toNatClampNeg i2)) fun S2 =>
  some (x1, S2)
def fX5_folds_L11 (i1 : Int32) (i2 : Int32) (i3 : Int32) (r1 : Int32) (k81 : M2 → Option (M2)) : Nat → Int32 → M2 → Option (M2)
  | 0, _, _ => none
  | n_ + 1, v2, S3 =>
    if (S3 3 0) ≤ v2 then
      k81 S3
    else
      (fX5_of v2 (4 : Int32) S3).bind fun r4 =>
      jn (α := Option (M2)) (β := Int32) (fun j6 =>
        jn (α := Option (M2)) (β := Unit) (fun j5 =>
          if r4 = r1 then
            (fX5_of v2 (5 : Int32) S3).bind fun r7 =>
            (fX5_of i1 (5 : Int32) S3).bind fun r8 =>
            if r7 ≤ r8 then
              j5 ()
            else
              j6 (1 : Int32)
          else
            j5 ()) (fun _ => 
          j6 (0 : Int32))) (fun p12 => 
        (fX5_of v2 (5 : Int32) S3).bind fun r13 =>
        (fX5_flag p12).bind fun r14 =>
        (fX5_becomesOf v2 (5 : Int32) (r13 - r14) S3).bind fun q15 =>
        lt (q15) fun S16 =>
        lt (v2 + (1 : Int32)) fun x17 =>
        fX5_folds_L11 i1 i2 i3 r1 k81 n_ x17 S16)
def fX5_folds_L92 (i1 : Int32) (i2 : Int32) (i3 : Int32) (k145 : M2 → Option (M2)) : Nat → Int32 → M2 → Option (M2)
  | 0, _, _ => none
  | n_ + 1, v22, S23 =>
    if (S23 3 0) ≤ v22 then
      k145 S23
    else
      (fX5_of v22 (5 : Int32) S23).bind fun r24 =>
      jn (α := Option (M2)) (β := Int32) (fun j26 =>
        jn (α := Option (M2)) (β := Unit) (fun j25 =>
          if i3 = 0 then
            j25 ()
          else
            (fX5_of v22 (4 : Int32) S23).bind fun r27 =>
            if r27 = i2 then
              j26 (1 : Int32)
            else
              j25 ()) (fun _ => 
          j26 (0 : Int32))) (fun p31 => 
        (fX5_flag p31).bind fun r32 =>
        (fX5_becomesOf v22 (5 : Int32) (r24 + r32) S23).bind fun q33 =>
        lt (q33) fun S34 =>
        lt (v22 + (1 : Int32)) fun x35 =>
        fX5_folds_L92 i1 i2 i3 k145 n_ x35 S34)
def fX5_folds (i1 : Int32) (i2 : Int32) (i3 : Int32) (S : M2) : Option (M2) :=
  (fX5_of i1 (4 : Int32) S).bind fun r1 =>
  fX5_folds_L11 i1 i2 i3 r1
    (fun p19 =>
      (fX5_becomesOf i1 (4 : Int32) (-4 : Int32) p19).bind fun q20 =>
      lt (q20) fun S21 =>
      fX5_folds_L92 i1 i2 i3
        (fun p37 =>
          (fX5_liesIn i2 p37).bind fun r38 =>
          (fX5_becomesOf i1 (4 : Int32) i2 p37).bind fun q39 =>
          lt (q39) fun S40 =>
          if i3 = 0 then
            (fX5_becomesOf i1 (5 : Int32) r38 S40).bind fun q41 =>
            lt (q41) fun S42 =>
            some S42
          else
            (fX5_becomesOf i1 (5 : Int32) (0 : Int32) S40).bind fun q43 =>
            lt (q43) fun S44 =>
            some S44)
        400 (0 : Int32) S21)
    400 (0 : Int32) S
def fX5_folded (i1 : Int32) (i2 : Int32) (i3 : Int32) (S : M2) : Option (Int32 × M2) :=
  (fX5_isBolt i1 S).bind fun r1 =>
  if r1 = 0 then
    some ((-1 : Int32), S)
  else
    (fX5_isBale i2).bind fun r2 =>
    if r2 = 0 then
      some ((-1 : Int32), S)
    else
      (fX5_starts  S).bind fun q3 =>
      lt (q3) fun S4 =>
      (fX5_folds i1 i2 i3 S4).bind fun q5 =>
      lt (q5) fun S6 =>
      (fX5_settles  S6).bind fun q7 =>
      lt (q7) fun S8 =>
      (fX5_liesIn i2 S8).bind fun r9 =>
      some (r9, S8)
def fX5_fold (i1 : Int32) (i2 : Int32) (S : M2) : Option (Int32 × M2) :=
  (fX5_folded i1 i2 (1 : Int32) S).bind fun q1 =>
  lt (q1.2) fun S2 =>
  some (q1.1, S2)
def fX5_under (i1 : Int32) (i2 : Int32) (S : M2) : Option (Int32 × M2) :=
  (fX5_folded i1 i2 (0 : Int32) S).bind fun q1 =>
  lt (q1.2) fun S2 =>
  some (q1.1, S2)
def fX5_swap_L25 (i1 : Int32) (i2 : Int32) (k68 : M2 → Option (Int32 × M2)) : Nat → Int32 → M2 → Option (Int32 × M2)
  | 0, _, _ => none
  | n_ + 1, v3, S4 =>
    if (5 : Int32) < v3 then
      k68 S4
    else
      bnd (((6 : Int32) * i2) + v3) 186 <|
      (fX5_becomes (((6 : Int32) * i1) + v3) (S4 0 (((6 : Int32) * i2) + v3).toNatClampNeg) S4).bind fun q5 =>
      lt (q5.2) fun S6 =>
      bnd (((6 : Int32) * i2) + v3) 186 <|
      lt (va_up S6 0 (upd (S6 0) (((6 : Int32) * i2) + v3).toNatClampNeg q5.1)) fun S7 =>
      lt (v3 + (1 : Int32)) fun x8 =>
      fX5_swap_L25 i1 i2 k68 n_ x8 S7
def fX5_swap (i1 : Int32) (i2 : Int32) (S : M2) : Option (Int32 × M2) :=
  (fX5_isBolt i1 S).bind fun r1 =>
  if r1 = 0 then
    some ((-1 : Int32), S)
  else
    (fX5_isBolt i2 S).bind fun r2 =>
    if r2 = 0 then
      some ((-1 : Int32), S)
    else
      if i1 = i2 then
        some ((-1 : Int32), S)
      else
        fX5_swap_L25 i1 i2
          (fun p10 =>
            bnd (((6 : Int32) * i1) + (4 : Int32)) 186 <|
            some ((p10 0 (((6 : Int32) * i1) + (4 : Int32)).toNatClampNeg), p10))
          400 (4 : Int32) S
def fX5_camphor (i1 : Int32) (i2 : Int32) (S : M2) : Option (Int32 × M2) :=
  (fX5_isBolt i1 S).bind fun r1 =>
  if r1 = 0 then
    some ((-1 : Int32), S)
  else
    (fX5_flag i2).bind fun r2 =>
    (fX5_becomes (((6 : Int32) * i1) + (3 : Int32)) r2 S).bind fun q3 =>
    lt (q3.2) fun S4 =>
    some (q3.1, S4)
def fX5_patch (i1 : Int32) (i2 : Int32) (S : M2) : Option (Int32 × M2) :=
  (fX5_isBolt i1 S).bind fun r1 =>
  if r1 = 0 then
    some ((-1 : Int32), S)
  else
    (fX5_in (i2.toInt64) (0 : Int64) (9 : Int64)).bind fun r2 =>
    if r2 = 0 then
      some ((-1 : Int32), S)
    else
      lt ((((6 : Int32) * i1) + (2 : Int32))) fun x3 =>
      bnd x3 186 <|
      if i2 ≤ (S 0 x3.toNatClampNeg) then
        bnd x3 186 <|
        bnd x3 186 <|
        lt (va_up S 0 (upd (S 0) x3.toNatClampNeg ((S 0 x3.toNatClampNeg) - i2))) fun S4 =>
        bnd x3 186 <|
        some ((S4 0 x3.toNatClampNeg), S4)
      else
        some ((-2 : Int32), S)
def fX5_prick (i1 : Int32) (S : M2) : Option (Int32 × M2) :=
  (fX5_isBolt i1 S).bind fun r1 =>
  if r1 = 0 then
    some ((-1 : Int32), S)
  else
    lt ((((6 : Int32) * i1) + (2 : Int32))) fun x2 =>
    bnd x2 186 <|
    bnd (((6 : Int32) * i1) + (1 : Int32)) 186 <|
    if (S 0 x2.toNatClampNeg) = (S 0 (((6 : Int32) * i1) + (1 : Int32)).toNatClampNeg) then
      some ((-3 : Int32), S)
    else
      bnd x2 186 <|
      bnd x2 186 <|
      lt (va_up S 0 (upd (S 0) x2.toNatClampNeg ((S 0 x2.toNatClampNeg) + (1 : Int32)))) fun S3 =>
      bnd x2 186 <|
      some ((S3 0 x2.toNatClampNeg), S3)
def fX5_alter (i1 : Int32) (i2 : Int32) (i3 : Int32) (S : M2) : Option (Int32 × M2) :=
  (fX5_isMoth i1 S).bind fun r1 =>
  if r1 = 0 then
    some ((-1 : Int32), S)
  else
    (fX5_in (i2.toInt64) (0 : Int64) (3 : Int64)).bind fun r2 =>
    if r2 = 0 then
      some ((-1 : Int32), S)
    else
      (fX5_mostOf i2).bind fun r3 =>
      (fX5_in (i3.toInt64) (0 : Int64) (r3.toInt64)).bind fun r4 =>
      if r4 = 0 then
        some ((-1 : Int32), S)
      else
        (fX5_becomes (((30 : Int32) + ((4 : Int32) * i1)) + i2) i3 S).bind fun q5 =>
        lt (q5.2) fun S6 =>
        some (q5.1, S6)
def fX5_set (i1 : Int32) (i2 : Int32) (S : M2) : Option (Int32 × M2) :=
  (fX5_isPart i1).bind fun r1 =>
  if r1 = 0 then
    some ((-1 : Int32), S)
  else
    jn (α := Option (Int32 × M2)) (β := Int64) (fun j2 =>
      if i1 = 0 then
        j2 (0 : Int64)
      else
        j2 (1 : Int64)) (fun p4 => 
      jn (α := Option (Int32 × M2)) (β := Int64) (fun j5 =>
        if i1 = 0 then
          j5 (3 : Int64)
        else
          j5 (9 : Int64)) (fun p7 => 
        (fX5_in (i2.toInt64) p4 p7).bind fun r8 =>
        if r8 = 0 then
          some ((-1 : Int32), S)
        else
          if i1 = 0 then
            (fX5_becomes (46 : Int32) i2 S).bind fun q11 =>
            lt (q11.2) fun S12 =>
            some (q11.1, S12)
          else
            (fX5_becomes (47 : Int32) i2 S).bind fun q9 =>
            lt (q9.2) fun S10 =>
            some (q9.1, S10)))
def fX5_go (i1 : Int32) (S : M2) : Option (Int32 × M2) :=
  (fX5_in (i1.toInt64) (0 : Int64) (20 : Int64)).bind fun r1 =>
  if r1 = 0 then
    some ((-1 : Int32), S)
  else
    bnd (48 : Int32) 186 <|
    if ((S 0 (48 : Int32).toNatClampNeg) + i1) ≤ (999 : Int32) then
      (fX5_starts  S).bind fun q2 =>
      lt (q2) fun S3 =>
      (fX5_nightsGo i1 S3).bind fun q4 =>
      lt (q4) fun S5 =>
      (fX5_settles  S5).bind fun q6 =>
      lt (q6) fun S7 =>
      (fX5_dutyAll  S7).bind fun r8 =>
      some (r8, S7)
    else
      some ((-3 : Int32), S)
def fX5_ahead (i1 : Int32) (i2 : Int32) (S : M2) : Option (Int32 × M2) :=
  (fX5_in (i1.toInt64) (0 : Int64) (20 : Int64)).bind fun r1 =>
  if r1 = 0 then
    some ((-1 : Int32), S)
  else
    (fX5_in (i2.toInt64) (0 : Int64) (2 : Int64)).bind fun r2 =>
    if r2 = 0 then
      some ((-1 : Int32), S)
    else
      (fX5_starts  S).bind fun q3 =>
      lt (q3) fun S4 =>
      (fX5_nightsGo i1 S4).bind fun q5 =>
      lt (q5) fun S6 =>
      if i2 = 0 then
        (fX5_dutyAll  S6).bind fun r10 =>
        some (r10, S6)
      else
        if i2 = (1 : Int32) then
          (fX5_allHoles  S6).bind fun r8 =>
          some (r8, S6)
        else
          (fX5_eaten  S6).bind fun r7 =>
          some (r7, S6)
def fX5_when_L16 (i1 : Int32) (k43 : M2 → Option (Int32 × M2)) : Nat → Int32 → M2 → Option (Int32 × M2)
  | 0, _, _ => none
  | n_ + 1, v4, S5 =>
    if (40 : Int32) < v4 then
      k43 S5
    else
      (fX5_isEaten i1 S5).bind fun r6 =>
      if r6 = 0 then
        (fX5_nightsGo (1 : Int32) S5).bind fun q7 =>
        lt (q7) fun S8 =>
        lt (v4 + (1 : Int32)) fun x9 =>
        fX5_when_L16 i1 k43 n_ x9 S8
      else
        some (v4, S5)
def fX5_when (i1 : Int32) (S : M2) : Option (Int32 × M2) :=
  (fX5_isBolt i1 S).bind fun r1 =>
  if r1 = 0 then
    some ((-1 : Int32), S)
  else
    (fX5_starts  S).bind fun q2 =>
    lt (q2) fun S3 =>
    fX5_when_L16 i1
      (fun p12 =>
        some ((-4 : Int32), p12))
      400 (0 : Int32) S3
def fX5_eats (i1 : Int32) (S : M2) : Option (Int32 × M2) :=
  (fX5_isMoth i1 S).bind fun r1 =>
  if r1 = 0 then
    some ((-1 : Int32), S)
  else
    (fX5_starts  S).bind fun q2 =>
    lt (q2) fun S3 =>
    (fX5_eatsNow i1 S3).bind fun q4 =>
    lt (q4.2) fun S5 =>
    some (q4.1, S5)
def fX5_duty (i1 : Int32) (S : M2) : Option (Int32 × M2) :=
  (fX5_isPart i1).bind fun r1 =>
  if r1 = 0 then
    some ((-1 : Int32), S)
  else
    (fX5_starts  S).bind fun q2 =>
    lt (q2) fun S3 =>
    if i1 = 0 then
      (fX5_dutyAll  S3).bind fun r7 =>
      some (r7, S3)
    else
      (fX5_nightsGo (1 : Int32) S3).bind fun q4 =>
      lt (q4) fun S5 =>
      (fX5_allHoles  S5).bind fun r6 =>
      bnd (47 : Int32) 62 <|
      some ((r6 * (S5 1 (47 : Int32).toNatClampNeg)), S5)
def fX5_isRow_L12  (k55 : (Int32 × M2) → Option (Int32 × M2)) : Nat → Int32 → Int32 → Int32 → M2 → Option (Int32 × M2)
  | 0, _, _, _, _ => none
  | n_ + 1, v2, v3, v4, S5 =>
    if v4 < 0 then
      k55 (v3, S5)
    else
      if (S5 3 0) = 0 then none else
      bnd v4 5 <|
      lt (va_up S5 19 (upd (S5 19) v4.toNatClampNeg (v2 - v2 / (S5 3 0) * (S5 3 0)))) fun S6 =>
      if (S6 3 0) = 0 then none else
      lt ((v2 / (S6 3 0))) fun x7 =>
      bnd v4 5 <|
      lt ((v3 ||| ((1 : Int32) <<< ((S6 19 v4.toNatClampNeg) &&& 31)))) fun x8 =>
      lt (v4 + (-1 : Int32)) fun x9 =>
      fX5_isRow_L12 k55 n_ x7 x8 x9 S6
def fX5_isRow (i1 : Int32) (S : M2) : Option (Int32 × M2) :=
  lt (((S 3 0) - (1 : Int32))) fun x1 =>
  fX5_isRow_L12 
    (fun p11 =>
      if p11.1 = (((1 : Int32) <<< ((p11.2 3 0) &&& 31)) - (1 : Int32)) then
        some ((1 : Int32), p11.2)
      else
        some ((0 : Int32), p11.2))
    400 i1 (0 : Int32) x1 S
def fX5_rows_L4 (S : M2) (k25 : Int32 → Option (Int32)) : Nat → Int32 → Int32 → Option (Int32)
  | 0, _, _ => none
  | n_ + 1, v1, v2 =>
    if (S 3 0) ≤ v2 then
      k25 v1
    else
      lt ((v1 * (S 3 0))) fun x3 =>
      lt (v2 + (1 : Int32)) fun x4 =>
      fX5_rows_L4 S k25 n_ x3 x4
def fX5_rows  (S : M2) : Option (Int32) :=
  fX5_rows_L4 S
    (fun p6 =>
      some p6)
    400 (1 : Int32) (0 : Int32)
def fX5_cutsAt_L2 (i1 : Int32) (i2 : Int32) (k80 : M2 → Option (M2)) : Nat → Int32 → M2 → Option (M2)
  | 0, _, _ => none
  | n_ + 1, v1, S2 =>
    if (S2 3 0) ≤ v1 then
      k80 S2
    else
      bnd v1 5 <|
      jn (α := Option (M2)) (β := Int32) (fun j3 =>
        if i1 ≤ v1 then
          if i2 ≤ v1 then
            j3 (2 : Int32)
          else
            j3 (1 : Int32)
        else
          j3 (0 : Int32)) (fun p6 => 
        (fX5_becomesOf (S2 19 v1.toNatClampNeg) (4 : Int32) p6 S2).bind fun q7 =>
        lt (q7) fun S8 =>
        bnd v1 5 <|
        jn (α := Option (M2)) (β := Int32) (fun j9 =>
          if i1 ≤ v1 then
            if i2 ≤ v1 then
              j9 (v1 - i2)
            else
              j9 (v1 - i1)
          else
            j9 v1) (fun p12 => 
          (fX5_becomesOf (S8 19 v1.toNatClampNeg) (5 : Int32) p12 S8).bind fun q13 =>
          lt (q13) fun S14 =>
          lt (v1 + (1 : Int32)) fun x15 =>
          fX5_cutsAt_L2 i1 i2 k80 n_ x15 S14))
def fX5_cutsAt (i1 : Int32) (i2 : Int32) (S : M2) : Option (M2) :=
  fX5_cutsAt_L2 i1 i2
    (fun p17 =>
      some p17)
    400 (0 : Int32) S
def fX5_placesNow_L4 (S : M2) (k40 : Int32 → Option (Int32)) : Nat → Int32 → Int32 → Option (Int32)
  | 0, _, _ => none
  | n_ + 1, v1, v2 =>
    if (S 3 0) ≤ v2 then
      k40 v1
    else
      (fX5_of v2 (4 : Int32) S).bind fun r3 =>
      (fX5_of v2 (5 : Int32) S).bind fun r4 =>
      lt (((((30 : Int32) * v1) + ((10 : Int32) * r3)) + r4)) fun x5 =>
      lt (v2 + (1 : Int32)) fun x6 =>
      fX5_placesNow_L4 S k40 n_ x5 x6
def fX5_placesNow  (S : M2) : Option (Int32) :=
  fX5_placesNow_L4 S
    (fun p8 =>
      some p8)
    400 (0 : Int32) (0 : Int32)
def fX5_placeIn_L10 (S : M2) (i2 : Int32) (k27 : Int32 → Option (Int32)) : Nat → Int32 → Int32 → Option (Int32)
  | 0, _, _ => none
  | n_ + 1, v2, v3 =>
    if v3 ≤ i2 then
      k27 v2
    else
      if (30 : Int32) = 0 then none else
      lt ((v2 / (30 : Int32))) fun x4 =>
      lt (v3 + (-1 : Int32)) fun x5 =>
      fX5_placeIn_L10 S i2 k27 n_ x4 x5
def fX5_placeIn (i1 : Int32) (i2 : Int32) (S : M2) : Option (Int32) :=
  lt (((S 3 0) - (1 : Int32))) fun x1 =>
  fX5_placeIn_L10 S i2
    (fun p7 =>
      if (30 : Int32) = 0 then none else
      some (p7 - p7 / (30 : Int32) * (30 : Int32)))
    400 i1 x1
def fX5_best_L46 (i1 : Int32) (v8 : Int32) (k162 : (Int32 × Int32 × M2) → Option (Int32 × M2)) : Nat → Int32 → Int32 → Int32 → M2 → Option (Int32 × M2)
  | 0, _, _, _, _ => none
  | n_ + 1, v14, v15, v16, S17 =>
    if (36 : Int32) ≤ v16 then
      k162 (v14, v15, S17)
    else
      if (6 : Int32) = 0 then none else
      lt ((v16 / (6 : Int32))) fun x18 =>
      if (6 : Int32) = 0 then none else
      lt ((v16 - v16 / (6 : Int32) * (6 : Int32))) fun x19 =>
      jn (α := Option (Int32 × M2)) (β := Int32 × Int32 × M2) (fun j20 =>
        if x19 < x18 then
          j20 (v14, v15, S17)
        else
          if (S17 3 0) < x19 then
            j20 (v14, v15, S17)
          else
            (fX5_starts  S17).bind fun q21 =>
            lt (q21) fun S22 =>
            (fX5_cutsAt x18 x19 S22).bind fun q23 =>
            lt (q23) fun S24 =>
            (fX5_placesNow  S24).bind fun r25 =>
            (fX5_dutyNext  S24).bind fun q26 =>
            lt (q26.2) fun S27 =>
            jn (α := Option (Int32 × M2)) (β := Int32) (fun j29 =>
              jn (α := Option (Int32 × M2)) (β := Unit) (fun j28 =>
                if q26.1 < v14 then
                  j28 ()
                else
                  jn (α := Option (Int32 × M2)) (β := Unit) (fun j30 =>
                    if q26.1 = v14 then
                      if v15 ≤ r25 then
                        j30 ()
                      else
                        j28 ()
                    else
                      j30 ()) (fun _ => 
                    j29 (0 : Int32))) (fun _ => 
                j29 (1 : Int32))) (fun p36 => 
              jn (α := Option (Int32 × M2)) (β := Int32) (fun j37 =>
                if p36 = 0 then
                  j37 v15
                else
                  j37 r25) (fun p39 => 
                jn (α := Option (Int32 × M2)) (β := Int32) (fun j40 =>
                  if p36 = 0 then
                    j40 v14
                  else
                    j40 q26.1) (fun p42 => 
                  j20 (p42, p39, S27))))) (fun p45 => 
        lt (v16 + (1 : Int32)) fun x46 =>
        fX5_best_L46 i1 v8 k162 n_ p45.1 p45.2.1 x46 p45.2.2)
def fX5_best_L25 (i1 : Int32) (k168 : (Int32 × Int32 × M2) → Option (Int32 × M2)) : Nat → Int32 → Int32 → Int32 → M2 → Option (Int32 × M2)
  | 0, _, _, _, _ => none
  | n_ + 1, v6, v7, v8, S9 =>
    (fX5_rows  S9).bind fun r10 =>
    if r10 ≤ v8 then
      k168 (v6, v7, S9)
    else
      (fX5_isRow v8 S9).bind fun q11 =>
      lt (q11.2) fun S12 =>
      jn (α := Option (Int32 × M2)) (β := Int32 × Int32 × M2) (fun j13 =>
        if q11.1 = 0 then
          j13 (v6, v7, S12)
        else
          fX5_best_L46 i1 v8
            (fun p48 =>
              j13 (p48.1, p48.2.1, p48.2.2))
            4000 v6 v7 (0 : Int32) S12) (fun p50 => 
        lt (v8 + (1 : Int32)) fun x51 =>
        fX5_best_L25 i1 k168 n_ p50.1 p50.2.1 x51 p50.2.2)
def fX5_best (i1 : Int32) (S : M2) : Option (Int32 × M2) :=
  jn (α := Option (Int32 × M2)) (β := Unit) (fun j1 =>
    if i1 = 0 then
      j1 ()
    else
      (fX5_isBolt (i1 - (10 : Int32)) S).bind fun r2 =>
      if r2 = 0 then
        some ((-1 : Int32), S)
      else
        j1 ()) (fun _ => 
    fX5_best_L25 i1
      (fun p53 =>
        if i1 = 0 then
          some (p53.1, p53.2.2)
        else
          (fX5_placeIn p53.2.1 (i1 - (10 : Int32)) p53.2.2).bind fun r54 =>
          some (r54, p53.2.2))
      4000 (1000000000 : Int32) (0 : Int32) (0 : Int32) S)
def fX5_guard_L24 (i1 : Int32) (k93 : (Int32 × Int32 × M2) → Option (Int32 × M2)) : Nat → Int32 → Int32 → Int32 → M2 → Option (Int32 × M2)
  | 0, _, _, _, _ => none
  | n_ + 1, v6, v7, v8, S9 =>
    if (S9 3 0) ≤ v8 then
      k93 (v6, v7, S9)
    else
      (fX5_starts  S9).bind fun q10 =>
      lt (q10) fun S11 =>
      (fX5_of v8 (3 : Int32) S11).bind fun r12 =>
      jn (α := Option (Int32 × M2)) (β := Int32 × Int32 × M2) (fun j13 =>
        if r12 = 0 then
          (fX5_becomesOf v8 (3 : Int32) (1 : Int32) S11).bind fun q14 =>
          lt (q14) fun S15 =>
          (fX5_dutyNext  S15).bind fun q16 =>
          lt (q16.2) fun S17 =>
          jn (α := Option (Int32 × M2)) (β := Int32) (fun j18 =>
            if v6 ≤ q16.1 then
              j18 v7
            else
              j18 v8) (fun p20 => 
            jn (α := Option (Int32 × M2)) (β := Int32) (fun j21 =>
              if v6 ≤ q16.1 then
                j21 v6
              else
                j21 q16.1) (fun p23 => 
              j13 (p23, p20, S17)))
        else
          j13 (v6, v7, S11)) (fun p25 => 
        lt (v8 + (1 : Int32)) fun x26 =>
        fX5_guard_L24 i1 k93 n_ p25.1 p25.2.1 x26 p25.2.2)
def fX5_guard (i1 : Int32) (S : M2) : Option (Int32 × M2) :=
  (fX5_isPart i1).bind fun r1 =>
  if r1 = 0 then
    some ((-1 : Int32), S)
  else
    (fX5_starts  S).bind fun q2 =>
    lt (q2) fun S3 =>
    (fX5_dutyNext  S3).bind fun q4 =>
    lt (q4.2) fun S5 =>
    fX5_guard_L24 i1
      (fun p28 =>
        if p28.2.1 = (-4 : Int32) then
          some ((-4 : Int32), p28.2.2)
        else
          if i1 = 0 then
            some (p28.2.1, p28.2.2)
          else
            some (p28.1, p28.2.2))
      400 q4.1 (-4 : Int32) (0 : Int32) S5
def fX5_send_L25 (i1 : Int32) (i2 : Int32) (k90 : (Int32 × Int32 × M2) → Option (Int32 × M2)) : Nat → Int32 → Int32 → Int32 → M2 → Option (Int32 × M2)
  | 0, _, _, _, _ => none
  | n_ + 1, v3, v4, v5, S6 =>
    if (3 : Int32) ≤ v5 then
      k90 (v3, v4, S6)
    else
      (fX5_starts  S6).bind fun q7 =>
      lt (q7) fun S8 =>
      bnd (((30 : Int32) + ((4 : Int32) * i1)) + (3 : Int32)) 62 <|
      lt (va_up S8 1 (upd (S8 1) (((30 : Int32) + ((4 : Int32) * i1)) + (3 : Int32)).toNatClampNeg v5)) fun S9 =>
      (fX5_dutyNext  S9).bind fun q10 =>
      lt (q10.2) fun S11 =>
      jn (α := Option (Int32 × M2)) (β := Int32) (fun j12 =>
        if q10.1 ≤ v3 then
          j12 v4
        else
          j12 v5) (fun p14 => 
        jn (α := Option (Int32 × M2)) (β := Int32) (fun j15 =>
          if q10.1 ≤ v3 then
            j15 v3
          else
            j15 q10.1) (fun p17 => 
          lt (v5 + (1 : Int32)) fun x18 =>
          fX5_send_L25 i1 i2 k90 n_ p17 p14 x18 S11))
def fX5_send (i1 : Int32) (i2 : Int32) (S : M2) : Option (Int32 × M2) :=
  (fX5_isMoth i1 S).bind fun r1 =>
  if r1 = 0 then
    some ((-1 : Int32), S)
  else
    (fX5_isPart i2).bind fun r2 =>
    if r2 = 0 then
      some ((-1 : Int32), S)
    else
      fX5_send_L25 i1 i2
        (fun p20 =>
          if i2 = 0 then
            some (p20.2.1, p20.2.2)
          else
            some (p20.1, p20.2.2))
        400 (-1 : Int32) (0 : Int32) (0 : Int32) S
def fX5_raise_L24 (i1 : Int32) (k89 : (Int32 × Int32 × M2) → Option (Int32 × M2)) : Nat → Int32 → Int32 → Int32 → M2 → Option (Int32 × M2)
  | 0, _, _, _, _ => none
  | n_ + 1, v6, v7, v8, S9 =>
    if (S9 3 0) ≤ v8 then
      k89 (v6, v7, S9)
    else
      (fX5_starts  S9).bind fun q10 =>
      lt (q10) fun S11 =>
      (fX5_of v8 (4 : Int32) S11).bind fun r12 =>
      (fX5_folds v8 r12 (1 : Int32) S11).bind fun q13 =>
      lt (q13) fun S14 =>
      (fX5_dutyNext  S14).bind fun q15 =>
      lt (q15.2) fun S16 =>
      jn (α := Option (Int32 × M2)) (β := Int32) (fun j17 =>
        if v6 ≤ q15.1 then
          j17 v7
        else
          j17 v8) (fun p19 => 
        jn (α := Option (Int32 × M2)) (β := Int32) (fun j20 =>
          if v6 ≤ q15.1 then
            j20 v6
          else
            j20 q15.1) (fun p22 => 
          lt (v8 + (1 : Int32)) fun x23 =>
          fX5_raise_L24 i1 k89 n_ p22 p19 x23 S16))
def fX5_raise (i1 : Int32) (S : M2) : Option (Int32 × M2) :=
  (fX5_isPart i1).bind fun r1 =>
  if r1 = 0 then
    some ((-1 : Int32), S)
  else
    (fX5_starts  S).bind fun q2 =>
    lt (q2) fun S3 =>
    (fX5_dutyNext  S3).bind fun q4 =>
    lt (q4.2) fun S5 =>
    fX5_raise_L24 i1
      (fun p25 =>
        if p25.2.1 = (-4 : Int32) then
          some ((-4 : Int32), p25.2.2)
        else
          if i1 = 0 then
            some (p25.2.1, p25.2.2)
          else
            some (p25.1, p25.2.2))
      400 q4.1 (-4 : Int32) (0 : Int32) S5
def fX5_waysOf_L5 (S : M2) (i1 : Int32) (i2 : Int32) (k43 : Int64 → Option (Int64)) : Nat → Int64 → Int32 → Option (Int64)
  | 0, _, _ => none
  | n_ + 1, w1, v2 =>
    if (S 4 0) ≤ v2 then
      k43 w1
    else
      jn (α := Option (Int64)) (β := Int64) (fun j3 =>
        if ((i1 >>> (v2 &&& 31)) &&& (1 : Int32)) = (1 : Int32) then
          j3 (i2.toInt64)
        else
          j3 (((10 : Int32) - i2).toInt64)) (fun p5 => 
        lt ((w1 * p5)) fun y6 =>
        lt (v2 + (1 : Int32)) fun x7 =>
        fX5_waysOf_L5 S i1 i2 k43 n_ y6 x7)
def fX5_waysOf (i1 : Int32) (i2 : Int32) (S : M2) : Option (Int64) :=
  fX5_waysOf_L5 S i1 i2
    (fun p9 =>
      some p9)
    400 (1 : Int64) (0 : Int32)
def fX5_allWays_L4 (S : M2) (k24 : Int64 → Option (Int64)) : Nat → Int64 → Int32 → Option (Int64)
  | 0, _, _ => none
  | n_ + 1, w1, v2 =>
    if (S 4 0) ≤ v2 then
      k24 w1
    else
      lt ((w1 * (10 : Int64))) fun y3 =>
      lt (v2 + (1 : Int32)) fun x4 =>
      fX5_allWays_L4 S k24 n_ y3 x4
def fX5_allWays  (S : M2) : Option (Int64) :=
  fX5_allWays_L4 S
    (fun p6 =>
      some p6)
    400 (1 : Int64) (0 : Int32)
def fX5_mean_L28 (i1 : Int32) (i2 : Int32) (k69 : (Int64 × M2) → Option (Int64 × M2)) : Nat → Int64 → Int32 → M2 → Option (Int64 × M2)
  | 0, _, _, _ => none
  | n_ + 1, w3, v4, S5 =>
    (fX5_everyMoth  S5).bind fun r6 =>
    if r6 < v4 then
      k69 (w3, S5)
    else
      (fX5_starts  S5).bind fun q7 =>
      lt (q7) fun S8 =>
      (fX5_nightGoes v4 S8).bind fun q9 =>
      lt (q9) fun S10 =>
      (fX5_dutyAll  S10).bind fun r11 =>
      (fX5_waysOf v4 i1 S10).bind fun r12 =>
      lt ((w3 + ((r11.toInt64) * r12))) fun y13 =>
      lt (v4 + (1 : Int32)) fun x14 =>
      fX5_mean_L28 i1 i2 k69 n_ y13 x14 S10
def fX5_mean (i1 : Int32) (i2 : Int32) (S : M2) : Option (Int64 × M2) :=
  (fX5_in (i1.toInt64) (0 : Int64) (10 : Int64)).bind fun r1 =>
  if r1 = 0 then
    some ((-1 : Int64), S)
  else
    (fX5_isPart i2).bind fun r2 =>
    if r2 = 0 then
      some ((-1 : Int64), S)
    else
      fX5_mean_L28 i1 i2
        (fun p16 =>
          (fX5_allWays  p16.2).bind fun r17 =>
          (fX5_told p16.1 r17 i2).bind fun r18 =>
          some (r18, p16.2))
        400 (0 : Int64) (0 : Int32) S
def fX5_luck_L37 (i1 : Int32) (i2 : Int32) (i3 : Int32) (k86 : (Int64 × M2) → Option (Int64 × M2)) : Nat → Int64 → Int32 → M2 → Option (Int64 × M2)
  | 0, _, _, _ => none
  | n_ + 1, w4, v5, S6 =>
    (fX5_everyMoth  S6).bind fun r7 =>
    if r7 < v5 then
      k86 (w4, S6)
    else
      (fX5_starts  S6).bind fun q8 =>
      lt (q8) fun S9 =>
      (fX5_nightGoes v5 S9).bind fun q10 =>
      lt (q10) fun S11 =>
      (fX5_isEaten i2 S11).bind fun r12 =>
      jn (α := Option (Int64 × M2)) (β := Int64) (fun j13 =>
        if r12 = 0 then
          j13 (0 : Int64)
        else
          (fX5_waysOf v5 i1 S11).bind fun r14 =>
          j13 r14) (fun p16 => 
        lt ((w4 + p16)) fun y17 =>
        lt (v5 + (1 : Int32)) fun x18 =>
        fX5_luck_L37 i1 i2 i3 k86 n_ y17 x18 S11)
def fX5_luck (i1 : Int32) (i2 : Int32) (i3 : Int32) (S : M2) : Option (Int64 × M2) :=
  (fX5_in (i1.toInt64) (0 : Int64) (10 : Int64)).bind fun r1 =>
  if r1 = 0 then
    some ((-1 : Int64), S)
  else
    (fX5_isBolt i2 S).bind fun r2 =>
    if r2 = 0 then
      some ((-1 : Int64), S)
    else
      (fX5_isPart i3).bind fun r3 =>
      if r3 = 0 then
        some ((-1 : Int64), S)
      else
        fX5_luck_L37 i1 i2 i3
          (fun p20 =>
            (fX5_allWays  p20.2).bind fun r21 =>
            (fX5_told p20.1 r21 i3).bind fun r22 =>
            some (r22, p20.2))
          400 (0 : Int64) (0 : Int32) S
def fX5_see (i1 : Int32) (i2 : Int32) (S : M2) : Option (Int32 × M2) :=
  (fX5_isBolt i1 S).bind fun r1 =>
  if r1 = 0 then
    some ((-1 : Int32), S)
  else
    (fX5_in (i2.toInt64) (0 : Int64) (9 : Int64)).bind fun r2 =>
    if r2 = 0 then
      some ((-1 : Int32), S)
    else
      bnd (49 : Int32) 186 <|
      if (S 0 (49 : Int32).toNatClampNeg) = (6 : Int32) then
        some ((-3 : Int32), S)
      else
        bnd (49 : Int32) 186 <|
        bnd ((50 : Int32) + ((2 : Int32) * (S 0 (49 : Int32).toNatClampNeg))) 186 <|
        lt (va_up S 0 (upd (S 0) ((50 : Int32) + ((2 : Int32) * (S 0 (49 : Int32).toNatClampNeg))).toNatClampNeg i1)) fun S3 =>
        bnd (49 : Int32) 186 <|
        bnd (((50 : Int32) + ((2 : Int32) * (S3 0 (49 : Int32).toNatClampNeg))) + (1 : Int32)) 186 <|
        lt (va_up S3 0 (upd (S3 0) (((50 : Int32) + ((2 : Int32) * (S3 0 (49 : Int32).toNatClampNeg))) + (1 : Int32)).toNatClampNeg i2)) fun S4 =>
        bnd (49 : Int32) 186 <|
        bnd (49 : Int32) 186 <|
        lt (va_up S4 0 (upd (S4 0) (49 : Int32).toNatClampNeg ((S4 0 (49 : Int32).toNatClampNeg) + (1 : Int32)))) fun S5 =>
        bnd (49 : Int32) 186 <|
        some ((S5 0 (49 : Int32).toNatClampNeg), S5)
def fX5_forget (i1 : Int32) (S : M2) : Option (Int32 × M2) :=
  bnd (49 : Int32) 186 <|
  (fX5_in (i1.toInt64) (0 : Int64) ((S 0 (49 : Int32).toNatClampNeg).toInt64)).bind fun r1 =>
  if r1 = 0 then
    some ((-1 : Int32), S)
  else
    (fX5_becomes (49 : Int32) i1 S).bind fun q2 =>
    lt (q2.2) fun S3 =>
    some (q2.1, S3)
def fX5_isSo_L4 (S : M2) (i1 : Int32) (k107 : Int32 → Option (Int32)) : Nat → Int32 → Int32 → Option (Int32)
  | 0, _, _ => none
  | n_ + 1, v1, v2 =>
    bnd (49 : Int32) 186 <|
    if (S 0 (49 : Int32).toNatClampNeg) ≤ v2 then
      k107 v1
    else
      bnd ((50 : Int32) + ((2 : Int32) * v2)) 186 <|
      lt ((S 0 ((50 : Int32) + ((2 : Int32) * v2)).toNatClampNeg)) fun x3 =>
      jn (α := Option (Int32)) (β := Int32) (fun j5 =>
        jn (α := Option (Int32)) (β := Unit) (fun j4 =>
          if ((i1 >>> (x3 &&& 31)) &&& (1 : Int32)) = (1 : Int32) then
            (fX5_of x3 (2 : Int32) S).bind fun r6 =>
            (fX5_of x3 (1 : Int32) S).bind fun r7 =>
            if r7 ≤ r6 then
              j4 ()
            else
              j5 (1 : Int32)
          else
            j4 ()) (fun _ => 
          j5 (0 : Int32))) (fun p11 => 
        (fX5_flag p11).bind fun r12 =>
        jn (α := Option (Int32)) (β := Int32) (fun j14 =>
          jn (α := Option (Int32)) (β := Unit) (fun j13 =>
            if v1 = 0 then
              j13 ()
            else
              (fX5_of x3 (2 : Int32) S).bind fun r15 =>
              bnd (((50 : Int32) + ((2 : Int32) * v2)) + (1 : Int32)) 186 <|
              if (r15 + r12) = (S 0 (((50 : Int32) + ((2 : Int32) * v2)) + (1 : Int32)).toNatClampNeg) then
                j14 (1 : Int32)
              else
                j13 ()) (fun _ => 
            j14 (0 : Int32))) (fun p19 => 
          lt (v2 + (1 : Int32)) fun x20 =>
          fX5_isSo_L4 S i1 k107 n_ p19 x20))
def fX5_isSo (i1 : Int32) (S : M2) : Option (Int32) :=
  fX5_isSo_L4 S i1
    (fun p22 =>
      zb p22 (some p22))
    400 (1 : Int32) (0 : Int32)
def fX5_tastes_L14 (i1 : Int32) (k61 : (Int32 × M2) → Option (Int32 × M2)) : Nat → Int32 → Int32 → M2 → Option (Int32 × M2)
  | 0, _, _, _ => none
  | n_ + 1, v2, v3, S4 =>
    if (5 : Int32) < v3 then
      k61 (v2, S4)
    else
      (fX5_starts  S4).bind fun q5 =>
      lt (q5) fun S6 =>
      bnd (((30 : Int32) + ((4 : Int32) * i1)) + (1 : Int32)) 62 <|
      lt (va_up S6 1 (upd (S6 1) (((30 : Int32) + ((4 : Int32) * i1)) + (1 : Int32)).toNatClampNeg v3)) fun S7 =>
      (fX5_nightsGo (1 : Int32) S7).bind fun q8 =>
      lt (q8) fun S9 =>
      (fX5_isSo (0 : Int32) S9).bind fun r10 =>
      (fX5_flag r10).bind fun r11 =>
      lt ((v2 ||| (r11 <<< (v3 &&& 31)))) fun x12 =>
      lt (v3 + (1 : Int32)) fun x13 =>
      fX5_tastes_L14 i1 k61 n_ x12 x13 S9
def fX5_tastes (i1 : Int32) (S : M2) : Option (Int32 × M2) :=
  (fX5_isMoth i1 S).bind fun r1 =>
  if r1 = 0 then
    some ((-1 : Int32), S)
  else
    fX5_tastes_L14 i1
      (fun p15 =>
        some (p15.1, p15.2))
      400 (0 : Int32) (0 : Int32) S
def fX5_bought_L4  (k49 : (Int32 × M2) → Option (Int32 × M2)) : Nat → Int32 → Int32 → M2 → Option (Int32 × M2)
  | 0, _, _, _ => none
  | n_ + 1, v1, v2, S3 =>
    if (S3 4 0) ≤ v2 then
      k49 (v1, S3)
    else
      (fX5_starts  S3).bind fun q4 =>
      lt (q4) fun S5 =>
      (fX5_everyMoth  S5).bind fun r6 =>
      (fX5_nightGoes (r6 &&& (((1 : Int32) <<< (v2 &&& 31)) ^^^ (-1 : Int32))) S5).bind fun q7 =>
      lt (q7) fun S8 =>
      (fX5_isSo (0 : Int32) S8).bind fun r9 =>
      (fX5_flag r9).bind fun r10 =>
      lt ((v1 ||| (r10 <<< (v2 &&& 31)))) fun x11 =>
      lt (v2 + (1 : Int32)) fun x12 =>
      fX5_bought_L4 k49 n_ x11 x12 S8
def fX5_bought  (S : M2) : Option (Int32 × M2) :=
  fX5_bought_L4 
    (fun p14 =>
      some (p14.1, p14.2))
    400 (0 : Int32) (0 : Int32) S
def fX5_pricked_L26 (i1 : Int32) (S5 : M2) (k66 : (Int32 × Int32) → Option (Int32 × M2)) : Nat → Int32 → Int32 → Int32 → Option (Int32 × M2)
  | 0, _, _, _ => none
  | n_ + 1, v6, v7, v8 =>
    if ((1 : Int32) <<< ((S5 3 0) &&& 31)) ≤ v8 then
      k66 (v6, v7)
    else
      (fX5_isSo v8 S5).bind fun r9 =>
      jn (α := Option (Int32 × M2)) (β := Int32 × Int32) (fun j10 =>
        if r9 = 0 then
          j10 (v6, v7)
        else
          jn (α := Option (Int32 × M2)) (β := Int32) (fun j11 =>
            if v6 = 0 then
              j11 v8
            else
              j11 v7) (fun p13 => 
            lt (v6 + (1 : Int32)) fun x14 =>
            j10 (x14, p13))) (fun p16 => 
        lt (v8 + (1 : Int32)) fun x17 =>
        fX5_pricked_L26 i1 S5 k66 n_ p16.1 p16.2 x17)
def fX5_pricked (i1 : Int32) (S : M2) : Option (Int32 × M2) :=
  (fX5_isPart i1).bind fun r1 =>
  if r1 = 0 then
    some ((-1 : Int32), S)
  else
    (fX5_starts  S).bind fun q2 =>
    lt (q2) fun S3 =>
    (fX5_nightsGo (1 : Int32) S3).bind fun q4 =>
    lt (q4) fun S5 =>
    fX5_pricked_L26 i1 S5
      (fun p19 =>
        if i1 = 0 then
          some (p19.1, S5)
        else
          some (p19.2, S5))
      400 (0 : Int32) (-4 : Int32) (0 : Int32)
def fX5_liesBy_L4 (i1 : Int32) (k48 : M2 → Option (M2)) : Nat → Int32 → Int32 → M2 → Option (M2)
  | 0, _, _, _ => none
  | n_ + 1, v1, v2, S3 =>
    if (S3 3 0) ≤ v2 then
      k48 S3
    else
      bnd v2 5 <|
      (fX5_of (S3 19 v2.toNatClampNeg) (4 : Int32) S3).bind fun r4 =>
      jn (α := Option (M2)) (β := Int32 × M2) (fun j5 =>
        if r4 = i1 then
          bnd v2 5 <|
          (fX5_becomesOf (S3 19 v2.toNatClampNeg) (5 : Int32) v1 S3).bind fun q6 =>
          lt (q6) fun S7 =>
          lt (v1 + (1 : Int32)) fun x8 =>
          j5 (x8, S7)
        else
          j5 (v1, S3)) (fun p10 => 
        lt (v2 + (1 : Int32)) fun x11 =>
        fX5_liesBy_L4 i1 k48 n_ p10.1 x11 p10.2)
def fX5_liesBy (i1 : Int32) (S : M2) : Option (M2) :=
  fX5_liesBy_L4 i1
    (fun p13 =>
      some p13)
    400 (0 : Int32) (0 : Int32) S
def fX5_lain_L13 (i1 : Int32) (k83 : (Int32 × M2) → Option (Int32 × M2)) : Nat → Int32 → Int32 → M2 → Option (Int32 × M2)
  | 0, _, _, _ => none
  | n_ + 1, v2, v3, S4 =>
    (fX5_rows  S4).bind fun r5 =>
    if r5 ≤ v3 then
      k83 (v2, S4)
    else
      (fX5_isRow v3 S4).bind fun q6 =>
      lt (q6.2) fun S7 =>
      jn (α := Option (Int32 × M2)) (β := Int32 × M2) (fun j8 =>
        if q6.1 = 0 then
          j8 (v2, S7)
        else
          (fX5_starts  S7).bind fun q9 =>
          lt (q9) fun S10 =>
          (fX5_liesBy i1 S10).bind fun q11 =>
          lt (q11) fun S12 =>
          (fX5_boltAt i1 (0 : Int32) S12).bind fun r13 =>
          (fX5_nightsGo (1 : Int32) S12).bind fun q14 =>
          lt (q14) fun S15 =>
          jn (α := Option (Int32 × M2)) (β := Int32) (fun j17 =>
            jn (α := Option (Int32 × M2)) (β := Unit) (fun j16 =>
              if r13 = (-4 : Int32) then
                j16 ()
              else
                (fX5_isSo (0 : Int32) S15).bind fun r18 =>
                if r18 = 0 then
                  j16 ()
                else
                  j17 ((1 : Int32) <<< (r13 &&& 31))) (fun _ => 
              j17 (0 : Int32))) (fun p22 => 
            lt ((v2 ||| p22)) fun x23 =>
            j8 (x23, S15))) (fun p25 => 
        lt (v3 + (1 : Int32)) fun x26 =>
        fX5_lain_L13 i1 k83 n_ p25.1 x26 p25.2)
def fX5_lain (i1 : Int32) (S : M2) : Option (Int32 × M2) :=
  (fX5_isBale i1).bind fun r1 =>
  if r1 = 0 then
    some ((-1 : Int32), S)
  else
    fX5_lain_L13 i1
      (fun p28 =>
        some (p28.1, p28.2))
      4000 (0 : Int32) (0 : Int32) S
def fX5_drift_L41 (i2 : Int32) (i3 : Int32) (k97 : M2 → Option (Int32 × M2)) : Nat → Int32 → Int32 → M2 → Option (Int32 × M2)
  | 0, _, _, _ => none
  | n_ + 1, v5, v6, S7 =>
    if i2 ≤ v6 then
      k97 S7
    else
      lt (((v5 * (1103515245 : Int32)) + (12345 : Int32))) fun x8 =>
      lt (((x8 >>> ((16 : Int32) &&& 31)) &&& (32767 : Int32))) fun x9 =>
      if (S7 3 0) = 0 then none else
      if (3 : Int32) = 0 then none else
      (fX5_folds (x9 - x9 / (S7 3 0) * (S7 3 0)) (x9 - x9 / (3 : Int32) * (3 : Int32)) (1 : Int32) S7).bind fun q10 =>
      lt (q10) fun S11 =>
      (fX5_nightsGo (1 : Int32) S11).bind fun q12 =>
      lt (q12) fun S13 =>
      lt (v6 + (1 : Int32)) fun x14 =>
      fX5_drift_L41 i2 i3 k97 n_ x8 x14 S13
def fX5_drift (i1 : Int32) (i2 : Int32) (i3 : Int32) (S : M2) : Option (Int32 × M2) :=
  (fX5_in (i2.toInt64) (1 : Int64) (20 : Int64)).bind fun r1 =>
  if r1 = 0 then
    some ((-1 : Int32), S)
  else
    (fX5_isPart i3).bind fun r2 =>
    if r2 = 0 then
      some ((-1 : Int32), S)
    else
      if (S 3 0) = 0 then
        some ((-2 : Int32), S)
      else
        (fX5_starts  S).bind fun q3 =>
        lt (q3) fun S4 =>
        fX5_drift_L41 i2 i3
          (fun p16 =>
            if i3 = 0 then
              (fX5_dutyAll  p16).bind fun r18 =>
              some (r18, p16)
            else
              (fX5_allHoles  p16).bind fun r17 =>
              some (r17, p16))
          400 i1 (0 : Int32) S4
def fX5_copies_L2 (i1 : Int32) (i2 : Int32) (k30 : M2 → Option (M2)) : Nat → Int32 → M2 → Option (M2)
  | 0, _, _ => none
  | n_ + 1, v1, S2 =>
    if (62 : Int32) ≤ v1 then
      k30 S2
    else
      bnd (i2 + v1) 186 <|
      bnd (i1 + v1) 186 <|
      lt (va_up S2 0 (upd (S2 0) (i1 + v1).toNatClampNeg (S2 0 (i2 + v1).toNatClampNeg))) fun S3 =>
      lt (v1 + (1 : Int32)) fun x4 =>
      fX5_copies_L2 i1 i2 k30 n_ x4 S3
def fX5_copies (i1 : Int32) (i2 : Int32) (S : M2) : Option (M2) :=
  fX5_copies_L2 i1 i2
    (fun p6 =>
      some p6)
    400 (0 : Int32) S
def fX5_keep (i1 : Int32) (S : M2) : Option (Int32 × M2) :=
  (fX5_in (i1.toInt64) (0 : Int64) (1 : Int64)).bind fun r1 =>
  if r1 = 0 then
    some ((-1 : Int32), S)
  else
    bnd i1 2 <|
    (fX5_flag (S 2 i1.toNatClampNeg)).bind fun r2 =>
    bnd i1 2 <|
    lt (va_up S 2 (upd (S 2) i1.toNatClampNeg (1 : Int32))) fun S3 =>
    (fX5_copies ((62 : Int32) * (i1 + (1 : Int32))) (0 : Int32) S3).bind fun q4 =>
    lt (q4) fun S5 =>
    some (r2, S5)
def fX5_back (i1 : Int32) (S : M2) : Option (Int32 × M2) :=
  (fX5_in (i1.toInt64) (0 : Int64) (1 : Int64)).bind fun r1 =>
  if r1 = 0 then
    some ((-1 : Int32), S)
  else
    bnd i1 2 <|
    if (S 2 i1.toNatClampNeg) = 0 then
      some ((-2 : Int32), S)
    else
      (fX5_copies (0 : Int32) ((62 : Int32) * (i1 + (1 : Int32))) S).bind fun q2 =>
      lt (q2) fun S3 =>
      bnd (48 : Int32) 186 <|
      some ((S3 0 (48 : Int32).toNatClampNeg), S3)
def fX5_sheet_L40 (i1 : Int32) (k66 : M2 → Option (Int32 × M2)) : Nat → Int32 → M2 → Option (Int32 × M2)
  | 0, _, _ => none
  | n_ + 1, v4, S5 =>
    if (40 : Int32) ≤ v4 then
      k66 S5
    else
      bnd (((40 : Int32) * i1) + v4) 160 <|
      lt (va_up S5 22 (upd (S5 22) (((40 : Int32) * i1) + v4).toNatClampNeg (0 : Int32))) fun S6 =>
      lt (v4 + (1 : Int32)) fun x7 =>
      fX5_sheet_L40 i1 k66 n_ x7 S6
def fX5_sheet (i1 : Int32) (i2 : Int32) (i3 : Int32) (S : M2) : Option (Int32 × M2) :=
  (fX5_isSheet i1 i2).bind fun r1 =>
  if r1 = 0 then
    some ((-1 : Int32), S)
  else
    if i3 ≤ (40 : Int32) then
      if 0 ≤ i3 then
        bnd i1 4 <|
        lt (va_up S 20 (upd (S 20) i1.toNatClampNeg i2)) fun S2 =>
        bnd i1 4 <|
        lt (va_up S2 21 (upd (S2 21) i1.toNatClampNeg i3)) fun S3 =>
        fX5_sheet_L40 i1
          (fun p9 =>
            some ((1 : Int32), p9))
          400 (0 : Int32) S3
      else
        some ((-14 : Int32), S)
    else
      some ((-1 : Int32), S)
def fX5_lay (i1 : Int32) (i2 : Int32) (i3 : Int32) (S : M2) : Option (Int32 × M2) :=
  (fX5_isSheet i1 (0 : Int32)).bind fun r1 =>
  if r1 = 0 then
    some ((-1 : Int32), S)
  else
    bnd i1 4 <|
    if (S 20 i1.toNatClampNeg) = (-4 : Int32) then
      some ((-11 : Int32), S)
    else
      bnd i1 4 <|
      (fX5_in (i2.toInt64) (0 : Int64) (((S 21 i1.toNatClampNeg) - (1 : Int32)).toInt64)).bind fun r2 =>
      if r2 = 0 then
        some ((-12 : Int32), S)
      else
        bnd i1 4 <|
        if (S 20 i1.toNatClampNeg) = 0 then
          bnd (((40 : Int32) * i1) + i2) 160 <|
          lt (va_up S 22 (upd (S 22) (((40 : Int32) * i1) + i2).toNatClampNeg (i3.toInt8.toInt32))) fun S6 =>
          some ((1 : Int32), S6)
        else
          bnd i1 4 <|
          if (S 20 i1.toNatClampNeg) = (1 : Int32) then
            bnd (((40 : Int32) * i1) + i2) 160 <|
            lt (va_up S 22 (upd (S 22) (((40 : Int32) * i1) + i2).toNatClampNeg (i3.toInt16.toInt32))) fun S4 =>
            some ((1 : Int32), S4)
          else
            bnd (((40 : Int32) * i1) + i2) 160 <|
            lt (va_up S 22 (upd (S 22) (((40 : Int32) * i1) + i2).toNatClampNeg i3)) fun S3 =>
            some ((1 : Int32), S3)
def fX5_read_L26 (i1 : Int32) (i2 : Int32) (i3 : Int32) (i4 : Int32) (k53 : M2 → Option (Int32 × M2)) : Nat → Int32 → M2 → Option (Int32 × M2)
  | 0, _, _ => none
  | n_ + 1, v3, S4 =>
    if (62 : Int32) ≤ v3 then
      k53 S4
    else
      bnd v3 186 <|
      bnd v3 62 <|
      lt (va_up S4 24 (upd (S4 24) v3.toNatClampNeg (S4 0 v3.toNatClampNeg))) fun S5 =>
      lt (v3 + (1 : Int32)) fun x6 =>
      fX5_read_L26 i1 i2 i3 i4 k53 n_ x6 S5
def fX5_read_L77 (i1 : Int32) (i2 : Int32) (i3 : Int32) (i4 : Int32) (v10 : Int32) (v11 : Int32) (p12 : M2) (k164 : Int32 → Option (Int32 × M2)) : Nat → Int32 → Int32 → Option (Int32 × M2)
  | 0, _, _ => none
  | n_ + 1, v13, v14 =>
    if (2 : Int32) ≤ v14 then
      k164 v13
    else
      if v13 = 0 then
        lt ((((i3.toInt64) + (((2 : Int32) * v11).toInt64)) + (v14.toInt64))) fun y15 =>
        bnd i1 4 <|
        jn (α := Option (Int32 × M2)) (β := Int32) (fun j16 =>
          if (p12 20 i1.toNatClampNeg) = (-4 : Int32) then
            j16 (1 : Int32)
          else
            bnd i1 4 <|
            if (p12 20 i1.toNatClampNeg) = i2 then
              jn (α := Option (Int32 × M2)) (β := Unit) (fun j17 =>
                if (lg_cmp y15 (0 : Int64)) < 0 then
                  j17 ()
                else
                  bnd i1 4 <|
                  if (lg_cmp y15 ((p12 21 i1.toNatClampNeg).toInt64)) < 0 then
                    j16 (0 : Int32)
                  else
                    j17 ()) (fun _ => 
                j16 (2 : Int32))
            else
              j16 (3 : Int32)) (fun p23 => 
          lt (v14 + (1 : Int32)) fun x24 =>
          fX5_read_L77 i1 i2 i3 i4 v10 v11 p12 k164 n_ p23 x24)
      else
        k164 v13
def fX5_read_L62 (i1 : Int32) (i2 : Int32) (i3 : Int32) (i4 : Int32) (k205 : (Int32 × M2) → Option (Int32 × M2)) (k250 : (Int32 × Int32 × M2) → Option (Int32 × M2)) : Nat → Int32 → Int32 → Int32 → M2 → Option (Int32 × M2)
  | 0, _, _, _, _ => none
  | n_ + 1, v9, v10, v11, p12 =>
    if i4 ≤ v11 then
      k250 (v9, v10, p12)
    else
      if v9 = 0 then
        fX5_read_L77 i1 i2 i3 i4 v10 v11 p12
          (fun p27 =>
            jn (α := Option (Int32 × M2)) (β := Int32 × M2) (fun j28 =>
              if p27 = 0 then
                lt (((((40 : Int32) * i1) + i3) + ((2 : Int32) * v11))) fun x29 =>
                bnd x29 160 <|
                bnd (x29 + (1 : Int32)) 160 <|
                (fX5_fold (p12 22 x29.toNatClampNeg) (p12 22 (x29 + (1 : Int32)).toNatClampNeg) p12).bind fun q30 =>
                lt (q30.2) fun S31 =>
                if 0 ≤ q30.1 then
                  lt (v10 + (1 : Int32)) fun x32 =>
                  j28 (x32, S31)
                else
                  k205 (v11, S31)
              else
                j28 (v10, p12)) (fun p35 => 
              lt (v11 + (1 : Int32)) fun x36 =>
              fX5_read_L62 i1 i2 i3 i4 k205 k250 n_ p27 p35.1 x36 p35.2))
          400 v9 (0 : Int32)
      else
        k250 (v9, v10, p12)
def fX5_read_L208 (p39 : Int32 × M2) (k235 : M2 → Option (Int32 × M2)) : Nat → Int32 → M2 → Option (Int32 × M2)
  | 0, _, _ => none
  | n_ + 1, v40, p41 =>
    if (62 : Int32) ≤ v40 then
      k235 p41
    else
      bnd v40 62 <|
      bnd v40 186 <|
      lt (va_up p41 0 (upd (p41 0) v40.toNatClampNeg (p41 24 v40.toNatClampNeg))) fun S42 =>
      lt (v40 + (1 : Int32)) fun x43 =>
      fX5_read_L208 p39 k235 n_ x43 S42
def fX5_read (i1 : Int32) (i2 : Int32) (i3 : Int32) (i4 : Int32) (S : M2) : Option (Int32 × M2) :=
  (fX5_isSheet i1 i2).bind fun r1 =>
  if r1 = 0 then
    some ((-1 : Int32), S)
  else
    (fX5_in (i4.toInt64) (0 : Int64) (20 : Int64)).bind fun r2 =>
    if r2 = 0 then
      some ((-1 : Int32), S)
    else
      fX5_read_L26 i1 i2 i3 i4
        (fun p8 =>
          fX5_read_L62 i1 i2 i3 i4
            (fun p39 =>
              fX5_read_L208 p39
                (fun p45 =>
                  some (((-20 : Int32) - p39.1), p45))
                400 (0 : Int32) p39.2)
            (fun p46 =>
              lt (va_up p46.2.2 23 (fun _ => p46.1)) fun S47 =>
              some (p46.2.1, S47))
            400 (0 : Int32) (0 : Int32) (0 : Int32) p8)
        400 (0 : Int32) S
def fX5_torn  (S : M2) : Option (Int32) :=
  some (S 23 0)
def fX5_count (i1 : Int32) (S : M2) : Option (Int32 × M2) :=
  (fX5_starts  S).bind fun q1 =>
  lt (q1) fun S2 =>
  if i1 = 0 then
    (fX5_allHoles  S2).bind fun r4 =>
    some (r4, S2)
  else
    if i1 = 1 then
      bnd (49 : Int32) 186 <|
      some ((S2 0 (49 : Int32).toNatClampNeg), S2)
    else
      if i1 = 2 then
        bnd (0 : Int32) 2 <|
        (fX5_flag (S2 2 (0 : Int32).toNatClampNeg)).bind fun r7 =>
        bnd (1 : Int32) 2 <|
        (fX5_flag (S2 2 (1 : Int32).toNatClampNeg)).bind fun r8 =>
        some ((r7 + r8), S2)
      else
        if i1 = 3 then
          some ((S2 12 0), S2)
        else
          if i1 = 4 then
            bnd (0 : Int32) 4 <|
            if (S2 20 (0 : Int32).toNatClampNeg) = (-4 : Int32) then
              some ((-4 : Int32), S2)
            else
              bnd (0 : Int32) 4 <|
              some ((S2 21 (0 : Int32).toNatClampNeg), S2)
          else
            some ((-1 : Int32), S2)
def fJ0_length_8abf5 (k : Nat) : Option Int32 := some (Int32.ofNat (jj_len.getD k 0))
def fJ0_charAt_5068e (k : Nat) (i : Int32) : Option Int32 := bnd i (jj_len.getD k 0) (some ((jj_byt.getD k []).getD i.toNatClampNeg 0))
def fX1_makeEmpty_L37  (k55 : M2 → Option (M2)) : Nat → Int32 → M2 → Option (M2)
  | 0, _, _ => none
  | n_ + 1, v8, S9 =>
    if (3 : Int32) ≤ v8 then
      k55 S9
    else
      bnd v8 3 <|
      lt (va_up S9 6 (upd (S9 6) v8.toNatClampNeg (0 : Int32))) fun S10 =>
      lt (v8 + (1 : Int32)) fun x11 =>
      fX1_makeEmpty_L37 k55 n_ x11 S10
def fX1_makeEmpty  (S : M2) : Option (M2) :=
  lt (va_up S 0 (fun _ => (0 : Int32))) fun S1 =>
  lt (va_up S1 4 (fun _ => (0 : Int32))) fun S2 =>
  lt (va_up S2 7 (fun _ => (0 : Int32))) fun S3 =>
  lt (va_up S3 12 (fun _ => (0 : Int32))) fun S4 =>
  lt (va_up S4 13 (fun _ => (1 : Int32))) fun S5 =>
  lt (va_up S5 14 (fun _ => (0 : Int32))) fun S6 =>
  lt (va_up S6 15 (fun _ => (0 : Int32))) fun S7 =>
  fX1_makeEmpty_L37 
    (fun p13 =>
      some p13)
    400 (0 : Int32) S7
def fX1_copyHolesFrom  (S : M2) (N : M2) : Option (M2) :=
  lt (va_up S 3 (va_cpy (N 3) (S 3) 0 0 5)) fun S1 =>
  some S1
def fX1_copyLyingFrom  (S : M2) (N : M2) : Option (M2) :=
  lt (va_up S 5 (va_cpy (N 5) (S 5) 0 0 15)) fun S1 =>
  lt (va_up S1 6 (va_cpy (N 6) (S1 6) 0 0 3)) fun S2 =>
  some S2
def fX1_copyFrom  (S : M2) (N : M2) : Option (M2) :=
  lt (va_up S 0 (fun _ => (N 0 0))) fun S1 =>
  lt (va_up S1 1 (va_cpy (N 1) (S1 1) 0 0 5)) fun S2 =>
  lt (va_up S2 2 (va_cpy (N 2) (S2 2) 0 0 5)) fun S3 =>
  (fX1_copyHolesFrom  S3 N).bind fun q4 =>
  lt (q4) fun S5 =>
  lt (va_up S5 4 (fun _ => (N 4 0))) fun S6 =>
  (fX1_copyLyingFrom  S6 N).bind fun q7 =>
  lt (q7) fun S8 =>
  lt (va_up S8 7 (fun _ => (N 7 0))) fun S9 =>
  lt (va_up S9 8 (va_cpy (N 8) (S9 8) 0 0 4)) fun S10 =>
  lt (va_up S10 9 (va_cpy (N 9) (S10 9) 0 0 4)) fun S11 =>
  lt (va_up S11 10 (va_cpy (N 10) (S11 10) 0 0 4)) fun S12 =>
  lt (va_up S12 11 (va_cpy (N 11) (S12 11) 0 0 4)) fun S13 =>
  lt (va_up S13 12 (fun _ => (N 12 0))) fun S14 =>
  lt (va_up S14 13 (fun _ => (N 13 0))) fun S15 =>
  lt (va_up S15 14 (fun _ => (N 14 0))) fun S16 =>
  lt (va_up S16 15 (fun _ => (N 15 0))) fun S17 =>
  lt (va_up S17 16 (va_cpy (N 16) (S17 16) 0 0 6)) fun S18 =>
  lt (va_up S18 17 (va_cpy (N 17) (S18 17) 0 0 6)) fun S19 =>
  some S19
def fX1_hasBolt (i1 : Int32) (S : M2) : Option (Int32) :=
  (fX4_within i1 (0 : Int32) ((S 0 0) - (1 : Int32))).bind fun r1 =>
  zb r1 (some r1)
def fX1_hasMoth (i1 : Int32) (S : M2) : Option (Int32) :=
  (fX4_within i1 (0 : Int32) ((S 7 0) - (1 : Int32))).bind fun r1 =>
  zb r1 (some r1)
def fX1_hasCamphor (i1 : Int32) (S : M2) : Option (Int32) :=
  if (((S 4 0) >>> (i1 &&& 31)) &&& (1 : Int32)) = (1 : Int32) then
    some (1 : Int32)
  else
    some (0 : Int32)
def fX1_putBelow (i1 : Int32) (i2 : Int32) (S : M2) : Option (M2) :=
  bnd i2 3 <|
  if (S 6 i2.toNatClampNeg) < (5 : Int32) then
    bnd i2 3 <|
    bnd ((i2 * (5 : Int32)) + (S 6 i2.toNatClampNeg)) 15 <|
    lt (va_up S 5 (upd (S 5) ((i2 * (5 : Int32)) + (S 6 i2.toNatClampNeg)).toNatClampNeg i1)) fun S1 =>
    bnd i2 3 <|
    bnd i2 3 <|
    lt (va_up S1 6 (upd (S1 6) i2.toNatClampNeg ((S1 6 i2.toNatClampNeg) + (1 : Int32)))) fun S2 =>
    some S2
  else
    some S
def fX1_addBolt (i1 : Int32) (i2 : Int32) (i3 : Int32) (S : M2) : Option (M2) :=
  if (S 0 0) < (5 : Int32) then
    lt ((S 0 0)) fun x1 =>
    lt (va_up S 0 (fun _ => ((S 0 0) + (1 : Int32)))) fun S2 =>
    bnd x1 5 <|
    lt (va_up S2 1 (upd (S2 1) x1.toNatClampNeg i1)) fun S3 =>
    bnd x1 5 <|
    lt (va_up S3 2 (upd (S3 2) x1.toNatClampNeg i2)) fun S4 =>
    bnd x1 5 <|
    lt (va_up S4 3 (upd (S4 3) x1.toNatClampNeg (0 : Int32))) fun S5 =>
    (fX1_putBelow x1 i3 S5).bind fun q6 =>
    lt (q6) fun S7 =>
    some S7
  else
    some S
def fX1_addMoth (i1 : Int32) (i2 : Int32) (i3 : Int32) (i4 : Int32) (S : M2) : Option (M2) :=
  if (S 7 0) < (4 : Int32) then
    lt ((S 7 0)) fun x1 =>
    lt (va_up S 7 (fun _ => ((S 7 0) + (1 : Int32)))) fun S2 =>
    bnd x1 4 <|
    lt (va_up S2 8 (upd (S2 8) x1.toNatClampNeg i1)) fun S3 =>
    bnd x1 4 <|
    lt (va_up S3 9 (upd (S3 9) x1.toNatClampNeg i2)) fun S4 =>
    bnd x1 4 <|
    lt (va_up S4 10 (upd (S4 10) x1.toNatClampNeg i3)) fun S5 =>
    bnd x1 4 <|
    lt (va_up S5 11 (upd (S5 11) x1.toNatClampNeg i4)) fun S6 =>
    some S6
  else
    some S
def fX1_spotOf_L9 (S : M2) (i1 : Int32) (v1 : Int32) (k45 : Unit → Option (Int32)) : Nat → Int32 → Option (Int32)
  | 0, _ => none
  | n_ + 1, v2 =>
    bnd v1 3 <|
    if (S 6 v1.toNatClampNeg) ≤ v2 then
      k45 ()
    else
      bnd ((v1 * (5 : Int32)) + v2) 15 <|
      if (S 5 ((v1 * (5 : Int32)) + v2).toNatClampNeg) = i1 then
        some ((v1 * (5 : Int32)) + v2)
      else
        lt (v2 + (1 : Int32)) fun x3 =>
        fX1_spotOf_L9 S i1 v1 k45 n_ x3
def fX1_spotOf_L2 (S : M2) (i1 : Int32) (k51 : Unit → Option (Int32)) : Nat → Int32 → Option (Int32)
  | 0, _ => none
  | n_ + 1, v1 =>
    if (3 : Int32) ≤ v1 then
      k51 ()
    else
      fX1_spotOf_L9 S i1 v1
        (fun _ =>
          lt (v1 + (1 : Int32)) fun x7 =>
          fX1_spotOf_L2 S i1 k51 n_ x7)
        400 (0 : Int32)
def fX1_spotOf (i1 : Int32) (S : M2) : Option (Int32) :=
  fX1_spotOf_L2 S i1
    (fun _ =>
      some (0 : Int32))
    400 (0 : Int32)
def fX1_baleOf (i1 : Int32) (S : M2) : Option (Int32) :=
  (fX1_spotOf i1 S).bind fun r1 =>
  if (5 : Int32) = 0 then none else
  some (r1 / (5 : Int32))
def fX1_layerOf (i1 : Int32) (S : M2) : Option (Int32) :=
  (fX1_spotOf i1 S).bind fun r1 =>
  if (5 : Int32) = 0 then none else
  some (r1 - r1 / (5 : Int32) * (5 : Int32))
def fX1_takeOut_L25 (x2 : Int32) (k66 : M2 → Option (M2)) : Nat → Int32 → M2 → Option (M2)
  | 0, _, _ => none
  | n_ + 1, v5, S6 =>
    bnd x2 3 <|
    if (S6 6 x2.toNatClampNeg) ≤ v5 then
      k66 S6
    else
      bnd (((x2 * (5 : Int32)) + v5) + (1 : Int32)) 15 <|
      bnd ((x2 * (5 : Int32)) + v5) 15 <|
      lt (va_up S6 5 (upd (S6 5) ((x2 * (5 : Int32)) + v5).toNatClampNeg (S6 5 (((x2 * (5 : Int32)) + v5) + (1 : Int32)).toNatClampNeg))) fun S7 =>
      lt (v5 + (1 : Int32)) fun x8 =>
      fX1_takeOut_L25 x2 k66 n_ x8 S7
def fX1_takeOut (i1 : Int32) (S : M2) : Option (M2) :=
  (fX1_spotOf i1 S).bind fun r1 =>
  if (5 : Int32) = 0 then none else
  lt ((r1 / (5 : Int32))) fun x2 =>
  bnd x2 3 <|
  bnd x2 3 <|
  lt (va_up S 6 (upd (S 6) x2.toNatClampNeg ((S 6 x2.toNatClampNeg) - (1 : Int32)))) fun S3 =>
  if (5 : Int32) = 0 then none else
  lt ((r1 - r1 / (5 : Int32) * (5 : Int32))) fun x4 =>
  fX1_takeOut_L25 x2
    (fun p10 =>
      some p10)
    400 x4 S3
def fX1_putOnTop_L12 (i1 : Int32) (i2 : Int32) (k44 : M2 → Option (M2)) : Nat → Int32 → M2 → Option (M2)
  | 0, _, _ => none
  | n_ + 1, v4, S5 =>
    if v4 ≤ 0 then
      k44 S5
    else
      bnd (((i2 * (5 : Int32)) + v4) - (1 : Int32)) 15 <|
      bnd ((i2 * (5 : Int32)) + v4) 15 <|
      lt (va_up S5 5 (upd (S5 5) ((i2 * (5 : Int32)) + v4).toNatClampNeg (S5 5 (((i2 * (5 : Int32)) + v4) - (1 : Int32)).toNatClampNeg))) fun S6 =>
      lt (v4 + (-1 : Int32)) fun x7 =>
      fX1_putOnTop_L12 i1 i2 k44 n_ x7 S6
def fX1_putOnTop (i1 : Int32) (i2 : Int32) (S : M2) : Option (M2) :=
  (fX1_takeOut i1 S).bind fun q1 =>
  lt (q1) fun S2 =>
  bnd i2 3 <|
  lt ((S2 6 i2.toNatClampNeg)) fun x3 =>
  fX1_putOnTop_L12 i1 i2
    (fun p9 =>
      bnd (i2 * (5 : Int32)) 15 <|
      lt (va_up p9 5 (upd (p9 5) (i2 * (5 : Int32)).toNatClampNeg i1)) fun S10 =>
      bnd i2 3 <|
      bnd i2 3 <|
      lt (va_up S10 6 (upd (S10 6) i2.toNatClampNeg ((S10 6 i2.toNatClampNeg) + (1 : Int32)))) fun S11 =>
      some S11)
    400 x3 S2
def fX1_trait (i1 : Int32) (i2 : Int32) (S : M2) : Option (Int32) :=
  if i2 = 0 then
    bnd i1 4 <|
    some (S 8 i1.toNatClampNeg)
  else
    if i2 = 1 then
      bnd i1 4 <|
      some (S 9 i1.toNatClampNeg)
    else
      if i2 = 2 then
        bnd i1 4 <|
        some (S 10 i1.toNatClampNeg)
      else
        if i2 = 3 then
          bnd i1 4 <|
          some (S 11 i1.toNatClampNeg)
        else
          some (-1 : Int32)
def fX1_setTrait (i1 : Int32) (i2 : Int32) (i3 : Int32) (S : M2) : Option (M2) :=
  if i2 = 0 then
    bnd i1 4 <|
    lt (va_up S 8 (upd (S 8) i1.toNatClampNeg i3)) fun S2 =>
    some S2
  else
    if i2 = 1 then
      bnd i1 4 <|
      lt (va_up S 9 (upd (S 9) i1.toNatClampNeg i3)) fun S4 =>
      some S4
    else
      if i2 = 2 then
        bnd i1 4 <|
        lt (va_up S 10 (upd (S 10) i1.toNatClampNeg i3)) fun S6 =>
        some S6
      else
        bnd i1 4 <|
        lt (va_up S 11 (upd (S 11) i1.toNatClampNeg i3)) fun S7 =>
        some S7
def fX1_appetite (i1 : Int32) (S : M2) : Option (Int32) :=
  bnd i1 4 <|
  lt (((S 10 i1.toNatClampNeg) + (S 12 0))) fun x1 =>
  bnd i1 4 <|
  if (S 8 i1.toNatClampNeg) = 1 then
    some (if (0 : Int32) < (x1 - (1 : Int32)) then (x1 - (1 : Int32)) else (0 : Int32))
  else
    if (S 8 i1.toNatClampNeg) = 2 then
      some ((2 : Int32) * x1)
    else
      if (S 8 i1.toNatClampNeg) = 3 then
        if (2 : Int32) = 0 then none else
        some (x1 / (2 : Int32))
      else
        some x1
def fX1_likes (i1 : Int32) (i2 : Int32) (S : M2) : Option (Int32) :=
  bnd i1 4 <|
  if (S 8 i1.toNatClampNeg) = 1 then
    bnd i2 5 <|
    bnd i1 4 <|
    if (S 1 i2.toNatClampNeg) = (S 9 i1.toNatClampNeg) then
      some (1 : Int32)
    else
      some (0 : Int32)
  else
    if (S 8 i1.toNatClampNeg) = 2 then
      some (1 : Int32)
    else
      bnd i2 5 <|
      bnd i1 4 <|
      if (1 : Int32) < ((S 1 i2.toNatClampNeg) - (S 9 i1.toNatClampNeg)) then
        some (0 : Int32)
      else
        bnd i1 4 <|
        bnd i2 5 <|
        if (1 : Int32) < ((S 9 i1.toNatClampNeg) - (S 1 i2.toNatClampNeg)) then
          some (0 : Int32)
        else
          some (1 : Int32)
def fX1_liked_L4 (S : M2) (i1 : Int32) (k33 : Int32 → Option (Int32)) : Nat → Int32 → Int32 → Option (Int32)
  | 0, _, _ => none
  | n_ + 1, v1, v2 =>
    if (S 0 0) ≤ v2 then
      k33 v1
    else
      (fX1_likes i1 v2 S).bind fun r3 =>
      jn (α := Option (Int32)) (β := Int32) (fun j4 =>
        if r3 = 0 then
          j4 v1
        else
          lt ((v1 ||| ((1 : Int32) <<< (v2 &&& 31)))) fun x5 =>
          j4 x5) (fun p7 => 
        lt (v2 + (1 : Int32)) fun x8 =>
        fX1_liked_L4 S i1 k33 n_ p7 x8)
def fX1_liked (i1 : Int32) (S : M2) : Option (Int32) :=
  fX1_liked_L4 S i1
    (fun p10 =>
      some p10)
    400 (0 : Int32) (0 : Int32)
def fX1_eatDown_L16 (i1 : Int32) (x2 : Int32) (k108 : M2 → Option (M2)) : Nat → Int32 → Int32 → M2 → Option (M2)
  | 0, _, _, _ => none
  | n_ + 1, v3, v4, S5 =>
    bnd x2 3 <|
    if (S5 6 x2.toNatClampNeg) ≤ v4 then
      k108 S5
    else
      if v3 ≤ 0 then
        k108 S5
      else
        bnd ((x2 * (5 : Int32)) + v4) 15 <|
        lt ((S5 5 ((x2 * (5 : Int32)) + v4).toNatClampNeg)) fun x6 =>
        (fX1_hasCamphor x6 S5).bind fun r7 =>
        if r7 = 0 then
          (fX1_likes i1 x6 S5).bind fun r8 =>
          jn (α := Option (M2)) (β := Int32 × M2) (fun j9 =>
            if r8 = 0 then
              j9 (v3, S5)
            else
              bnd x6 5 <|
              bnd x6 5 <|
              lt ((if ((S5 2 x6.toNatClampNeg) - (S5 3 x6.toNatClampNeg)) < v3 then ((S5 2 x6.toNatClampNeg) - (S5 3 x6.toNatClampNeg)) else v3)) fun x10 =>
              bnd x6 5 <|
              bnd x6 5 <|
              lt (va_up S5 3 (upd (S5 3) x6.toNatClampNeg ((S5 3 x6.toNatClampNeg) + x10))) fun S11 =>
              lt ((v3 - x10)) fun x12 =>
              j9 (x12, S11)) (fun p14 => 
            lt (v4 + (1 : Int32)) fun x15 =>
            fX1_eatDown_L16 i1 x2 k108 n_ p14.1 x15 p14.2)
        else
          some S5
def fX1_eatDown (i1 : Int32) (S : M2) : Option (M2) :=
  (fX1_appetite i1 S).bind fun r1 =>
  bnd i1 4 <|
  lt ((S 11 i1.toNatClampNeg)) fun x2 =>
  fX1_eatDown_L16 i1 x2
    (fun p19 =>
      some p19)
    400 r1 (0 : Int32) S
def fX1_letLoose_L2 (i1 : Int32) (k30 : M2 → Option (M2)) : Nat → Int32 → M2 → Option (M2)
  | 0, _, _ => none
  | n_ + 1, v1, S2 =>
    if (S2 7 0) ≤ v1 then
      k30 S2
    else
      jn (α := Option (M2)) (β := M2) (fun j3 =>
        if ((i1 >>> (v1 &&& 31)) &&& (1 : Int32)) = (1 : Int32) then
          (fX1_eatDown v1 S2).bind fun q4 =>
          lt (q4) fun S5 =>
          j3 S5
        else
          j3 S2) (fun p7 => 
        lt (v1 + (1 : Int32)) fun x8 =>
        fX1_letLoose_L2 i1 k30 n_ x8 p7)
def fX1_letLoose (i1 : Int32) (S : M2) : Option (M2) :=
  fX1_letLoose_L2 i1
    (fun p10 =>
      some p10)
    400 (0 : Int32) S
def fX1_passNight  (S : M2) : Option (M2) :=
  (fX1_letLoose (15 : Int32) S).bind fun q1 =>
  lt (q1) fun S2 =>
  if (4 : Int32) = 0 then none else
  lt (va_up S2 12 (fun _ => (((S2 12 0) + (1 : Int32)) - ((S2 12 0) + (1 : Int32)) / (4 : Int32) * (4 : Int32)))) fun S3 =>
  lt (va_up S3 14 (fun _ => ((S3 14 0) + (1 : Int32)))) fun S4 =>
  some S4
def fX1_dutyOf_L7 (S : M2) (i1 : Int32) (k57 : Int32 → Option (Int32)) : Nat → Int32 → Int32 → Int32 → Option (Int32)
  | 0, _, _, _ => none
  | n_ + 1, v1, v2, v3 =>
    bnd i1 3 <|
    if (S 6 i1.toNatClampNeg) ≤ v3 then
      k57 v1
    else
      bnd ((i1 * (5 : Int32)) + v3) 15 <|
      bnd (S 5 ((i1 * (5 : Int32)) + v3).toNatClampNeg) 5 <|
      lt ((S 3 (S 5 ((i1 * (5 : Int32)) + v3).toNatClampNeg).toNatClampNeg)) fun x4 =>
      lt ((v1 + (x4 - (if v2 < x4 then v2 else x4)))) fun x5 =>
      lt (v3 + (1 : Int32)) fun x6 =>
      fX1_dutyOf_L7 S i1 k57 n_ x5 x4 x6
def fX1_dutyOf (i1 : Int32) (S : M2) : Option (Int32) :=
  fX1_dutyOf_L7 S i1
    (fun p8 =>
      some (p8 * (S 13 0)))
    400 (0 : Int32) (0 : Int32) (0 : Int32)
def fX1_dutyOfAll_L4 (S : M2) (k23 : Int32 → Option (Int32)) : Nat → Int32 → Int32 → Option (Int32)
  | 0, _, _ => none
  | n_ + 1, v1, v2 =>
    if (3 : Int32) ≤ v2 then
      k23 v1
    else
      (fX1_dutyOf v2 S).bind fun r3 =>
      lt ((v1 + r3)) fun x4 =>
      lt (v2 + (1 : Int32)) fun x5 =>
      fX1_dutyOfAll_L4 S k23 n_ x4 x5
def fX1_dutyOfAll  (S : M2) : Option (Int32) :=
  fX1_dutyOfAll_L4 S
    (fun p7 =>
      some p7)
    400 (0 : Int32) (0 : Int32)
def fX1_holesInAll_L4 (S : M2) (k27 : Int32 → Option (Int32)) : Nat → Int32 → Int32 → Option (Int32)
  | 0, _, _ => none
  | n_ + 1, v1, v2 =>
    if (S 0 0) ≤ v2 then
      k27 v1
    else
      bnd v2 5 <|
      lt ((v1 + (S 3 v2.toNatClampNeg))) fun x3 =>
      lt (v2 + (1 : Int32)) fun x4 =>
      fX1_holesInAll_L4 S k27 n_ x3 x4
def fX1_holesInAll  (S : M2) : Option (Int32) :=
  fX1_holesInAll_L4 S
    (fun p6 =>
      some p6)
    400 (0 : Int32) (0 : Int32)
def fX1_isEatenUp (i1 : Int32) (S : M2) : Option (Int32) :=
  bnd i1 5 <|
  if (S 2 i1.toNatClampNeg) ≤ 0 then
    some (0 : Int32)
  else
    bnd i1 5 <|
    bnd i1 5 <|
    if (S 3 i1.toNatClampNeg) = (S 2 i1.toNatClampNeg) then
      some (1 : Int32)
    else
      some (0 : Int32)
def fX1_eatenUp_L4 (S : M2) (k32 : Int32 → Option (Int32)) : Nat → Int32 → Int32 → Option (Int32)
  | 0, _, _ => none
  | n_ + 1, v1, v2 =>
    if (S 0 0) ≤ v2 then
      k32 v1
    else
      (fX1_isEatenUp v2 S).bind fun r3 =>
      jn (α := Option (Int32)) (β := Int32) (fun j4 =>
        if r3 = 0 then
          j4 v1
        else
          lt ((v1 ||| ((1 : Int32) <<< (v2 &&& 31)))) fun x5 =>
          j4 x5) (fun p7 => 
        lt (v2 + (1 : Int32)) fun x8 =>
        fX1_eatenUp_L4 S k32 n_ p7 x8)
def fX1_eatenUp  (S : M2) : Option (Int32) :=
  fX1_eatenUp_L4 S
    (fun p10 =>
      some p10)
    400 (0 : Int32) (0 : Int32)
def fX1_isAsSeen_L2 (S : M2) (i1 : Int32) (k74 : Unit → Option (Int32)) : Nat → Int32 → Option (Int32)
  | 0, _ => none
  | n_ + 1, v1 =>
    if (S 15 0) ≤ v1 then
      k74 ()
    else
      bnd v1 6 <|
      lt ((S 16 v1.toNatClampNeg)) fun x2 =>
      jn (α := Option (Int32)) (β := Int32) (fun j4 =>
        jn (α := Option (Int32)) (β := Unit) (fun j3 =>
          if ((i1 >>> (x2 &&& 31)) &&& (1 : Int32)) = (1 : Int32) then
            bnd x2 5 <|
            bnd x2 5 <|
            if (S 2 x2.toNatClampNeg) ≤ (S 3 x2.toNatClampNeg) then
              j3 ()
            else
              j4 (1 : Int32)
          else
            j3 ()) (fun _ => 
          j4 (0 : Int32))) (fun p8 => 
        bnd x2 5 <|
        bnd v1 6 <|
        if ((S 3 x2.toNatClampNeg) + p8) = (S 17 v1.toNatClampNeg) then
          lt (v1 + (1 : Int32)) fun x9 =>
          fX1_isAsSeen_L2 S i1 k74 n_ x9
        else
          some (0 : Int32))
def fX1_isAsSeen (i1 : Int32) (S : M2) : Option (Int32) :=
  fX1_isAsSeen_L2 S i1
    (fun _ =>
      some (1 : Int32))
    400 (0 : Int32)
def fX2_makeNew_L17  (k36 : M2 → Option (M2)) : Nat → Int32 → M2 → Option (M2)
  | 0, _, _ => none
  | n_ + 1, v4, S5 =>
    if (40 : Int32) ≤ v4 then
      k36 S5
    else
      bnd v4 40 <|
      lt (va_up S5 3 (upd (S5 3) v4.toNatClampNeg (0 : Int32))) fun S6 =>
      lt (v4 + (1 : Int32)) fun x7 =>
      fX2_makeNew_L17 k36 n_ x7 S6
def fX2_makeNew (i1 : Int32) (i2 : Int32) (S : M2) : Option (M2) :=
  lt (va_up S 0 (fun _ => (1 : Int32))) fun S1 =>
  lt (va_up S1 1 (fun _ => i1)) fun S2 =>
  lt (va_up S2 2 (fun _ => i2)) fun S3 =>
  fX2_makeNew_L17 
    (fun p9 =>
      some p9)
    400 (0 : Int32) S3
def fX2_hasCell (i1 : Int32) (S : M2) : Option (Int32) :=
  if (S 0 0) = 0 then
    some (0 : Int32)
  else
    (fX4_within i1 (0 : Int32) ((S 2 0) - (1 : Int32))).bind fun r1 =>
    if r1 = 0 then
      some (0 : Int32)
    else
      some (1 : Int32)
def fX2_setCell (i1 : Int32) (i2 : Int32) (S : M2) : Option (M2) :=
  if (S 1 0) = 0 then
    bnd i1 40 <|
    lt (va_up S 3 (upd (S 3) i1.toNatClampNeg (i2.toInt8.toInt32))) fun S4 =>
    some S4
  else
    if (S 1 0) = (1 : Int32) then
      bnd i1 40 <|
      lt (va_up S 3 (upd (S 3) i1.toNatClampNeg (i2.toInt16.toInt32))) fun S2 =>
      some S2
    else
      bnd i1 40 <|
      lt (va_up S 3 (upd (S 3) i1.toNatClampNeg i2)) fun S1 =>
      some S1
def fX2_faultAs (i1 : Int32) (S : M2) : Option (Int32) :=
  if (S 0 0) = 0 then
    some (1 : Int32)
  else
    if (S 1 0) = i1 then
      some (0 : Int32)
    else
      some (3 : Int32)
def fX2_wholePairs_L2 (S : M2) (i1 : Int32) (i2 : Int32) (k35 : Int32 → Option (Int32)) : Nat → Int32 → Option (Int32)
  | 0, _ => none
  | n_ + 1, v1 =>
    if i2 ≤ v1 then
      k35 v1
    else
      (fX2_hasCell i1 S).bind fun r2 =>
      if r2 = 0 then
        k35 v1
      else
        (fX2_hasCell ((i1 + ((2 : Int32) * v1)) + (1 : Int32)) S).bind fun r3 =>
        if r3 = 0 then
          k35 v1
        else
          lt (v1 + (1 : Int32)) fun x4 =>
          fX2_wholePairs_L2 S i1 i2 k35 n_ x4
def fX2_wholePairs (i1 : Int32) (i2 : Int32) (S : M2) : Option (Int32) :=
  fX2_wholePairs_L2 S i1 i2
    (fun p8 =>
      some p8)
    400 (0 : Int32)
def fX3_readName_L5  (k44 : M2 → Option (M2)) : Nat → M2 → Option (M2)
  | 0, _ => none
  | n_ + 1, S2 =>
    if (S2 1 0) ≤ (S2 5 0) then
      k44 S2
    else
      bnd (S2 5 0) 160 <|
      (fX3_isLetter (S2 0 (S2 5 0).toNatClampNeg)).bind fun r3 =>
      if r3 = 0 then
        k44 S2
      else
        lt (va_up S2 5 (fun _ => ((S2 5 0) + (1 : Int32)))) fun S4 =>
        fX3_readName_L5 k44 n_ S4
def fX3_readName  (S : M2) : Option (M2) :=
  lt (va_up S 6 (fun _ => (1 : Int32))) fun S1 =>
  fX3_readName_L5 
    (fun p7 =>
      some p7)
    400 S1
def fX3_refuse (i1 : Int32) (i2 : Int32) (S : M2) : Option (Int32 × M2) :=
  if (S 2 0) = 0 then
    lt (va_up S 2 (fun _ => i1)) fun S1 =>
    lt (va_up S1 3 (fun _ => i2)) fun S2 =>
    some ((0 : Int32), S2)
  else
    some ((0 : Int32), S)
def fX3_readNumber_L10  (k73 : M2 → Option (M2)) : Nat → M2 → Option (M2)
  | 0, _ => none
  | n_ + 1, S3 =>
    if (S3 1 0) ≤ (S3 5 0) then
      k73 S3
    else
      bnd (S3 5 0) 160 <|
      (fX3_isFigure (S3 0 (S3 5 0).toNatClampNeg)).bind fun r4 =>
      if r4 = 0 then
        k73 S3
      else
        bnd (S3 5 0) 160 <|
        lt (va_up S3 8 (fun _ => ((((10 : Int32) * (S3 8 0)) + (S3 0 (S3 5 0).toNatClampNeg)) - (48 : Int32)))) fun S5 =>
        lt (va_up S5 5 (fun _ => ((S5 5 0) + (1 : Int32)))) fun S6 =>
        fX3_readNumber_L10 k73 n_ S6
def fX3_readNumber  (S : M2) : Option (M2) :=
  lt (va_up S 6 (fun _ => (2 : Int32))) fun S1 =>
  lt (va_up S1 8 (fun _ => (0 : Int32))) fun S2 =>
  fX3_readNumber_L10 
    (fun p9 =>
      if ((p9 5 0) - (p9 7 0)) ≤ (2 : Int32) then
        some p9
      else
        lt (va_up p9 6 (fun _ => (5 : Int32))) fun S10 =>
        (fX3_refuse (1 : Int32) (S10 7 0) S10).bind fun q11 =>
        lt (q11.2) fun S12 =>
        some S12)
    400 S2
def fX3_nextToken_L0  (k38 : M2 → Option (M2)) : Nat → M2 → Option (M2)
  | 0, _ => none
  | n_ + 1, S1 =>
    if (S1 1 0) ≤ (S1 5 0) then
      k38 S1
    else
      bnd (S1 5 0) 160 <|
      if (S1 0 (S1 5 0).toNatClampNeg) = (32 : Int32) then
        lt (va_up S1 5 (fun _ => ((S1 5 0) + (1 : Int32)))) fun S2 =>
        fX3_nextToken_L0 k38 n_ S2
      else
        k38 S1
def fX3_nextToken  (S : M2) : Option (M2) :=
  fX3_nextToken_L0 
    (fun p5 =>
      lt (va_up p5 7 (fun _ => (p5 5 0))) fun S6 =>
      if (S6 5 0) < (S6 1 0) then
        bnd (S6 5 0) 160 <|
        (fX3_isLetter (S6 0 (S6 5 0).toNatClampNeg)).bind fun r7 =>
        if r7 = 0 then
          bnd (S6 5 0) 160 <|
          (fX3_isFigure (S6 0 (S6 5 0).toNatClampNeg)).bind fun r8 =>
          if r8 = 0 then
            bnd (S6 5 0) 160 <|
            if (S6 0 (S6 5 0).toNatClampNeg) = (59 : Int32) then
              lt (va_up S6 6 (fun _ => (3 : Int32))) fun S12 =>
              lt (va_up S12 5 (fun _ => ((S12 5 0) + (1 : Int32)))) fun S13 =>
              some S13
            else
              lt (va_up S6 6 (fun _ => (5 : Int32))) fun S9 =>
              (fX3_refuse (1 : Int32) (S9 7 0) S9).bind fun q10 =>
              lt (q10.2) fun S11 =>
              some S11
          else
            (fX3_readNumber  S6).bind fun q15 =>
            lt (q15) fun S16 =>
            some S16
        else
          (fX3_readName  S6).bind fun q18 =>
          lt (q18) fun S19 =>
          some S19
      else
        lt (va_up S6 6 (fun _ => (4 : Int32))) fun S21 =>
        some S21)
    400 S
def fX3_isName_L20 (S : M2) (k : Nat) (k55 : Unit → Option (Int32)) : Nat → Int32 → Option (Int32)
  | 0, _ => none
  | n_ + 1, v2 =>
    (fJ0_length_8abf5 k).bind fun r3 =>
    if r3 ≤ v2 then
      k55 ()
    else
      bnd ((S 7 0) + v2) 160 <|
      (fJ0_charAt_5068e k v2).bind fun r4 =>
      if (S 0 ((S 7 0) + v2).toNatClampNeg) = r4 then
        lt (v2 + (1 : Int32)) fun x5 =>
        fX3_isName_L20 S k k55 n_ x5
      else
        some (0 : Int32)
def fX3_isName (k : Nat) (S : M2) : Option (Int32) :=
  (fJ0_length_8abf5 k).bind fun r1 =>
  if ((S 5 0) - (S 7 0)) = r1 then
    fX3_isName_L20 S k
      (fun _ =>
        some (1 : Int32))
      400 (0 : Int32)
  else
    some (0 : Int32)
def fX3_lineNamed  (S : M2) : Option (Int32) :=
  (fX3_isName  0 S).bind fun r1 =>
  if r1 = 0 then
    (fX3_isName  1 S).bind fun r2 =>
    if r2 = 0 then
      (fX3_isName  2 S).bind fun r3 =>
      if r3 = 0 then
        (fX3_isName  3 S).bind fun r4 =>
        if r4 = 0 then
          (fX3_isName  4 S).bind fun r5 =>
          if r5 = 0 then
            (fX3_isName  5 S).bind fun r6 =>
            if r6 = 0 then
              (fX3_isName  6 S).bind fun r7 =>
              if r7 = 0 then
                (fX3_isName  7 S).bind fun r8 =>
                if r8 = 0 then
                  some (-1 : Int32)
                else
                  some (7 : Int32)
              else
                some (6 : Int32)
            else
              some (5 : Int32)
          else
            some (3 : Int32)
        else
          some (2 : Int32)
      else
        some (1 : Int32)
    else
      some (0 : Int32)
  else
    some (4 : Int32)
def fX3_readNumbers_L14 (T : M2) (S : M2) (i1 : Int32) (p3 : Int32) (k122 : (M2 × M2) → Option (Int32 × (M2 × M2))) : Nat → Int32 → M2 → M2 → Option (Int32 × (M2 × M2))
  | 0, _, _, _ => none
  | n_ + 1, v4, T5, S6 =>
    if p3 ≤ v4 then
      k122 (T5, S6)
    else
      (fX3_nextToken  T5).bind fun q7 =>
      lt (q7) fun T8 =>
      if (T8 6 0) = (2 : Int32) then
        jn (α := Option (Int32 × (M2 × M2))) (β := Int32) (fun j9 =>
          if i1 = (7 : Int32) then
            j9 (1 : Int32)
          else
            j9 (0 : Int32)) (fun p11 => 
          (fX3_mostOfNumber i1 v4).bind fun r12 =>
          (fX4_within (T8 8 0) p11 r12).bind fun r13 =>
          if r13 = 0 then
            (fX3_refuse (3 : Int32) (T8 7 0) T8).bind fun q23 =>
            lt (q23.2) fun T24 =>
            zb q23.1 (some (q23.1, (T24, S6)))
          else
            jn (α := Option (Int32 × (M2 × M2))) (β := Unit) (fun j14 =>
              if i1 = (5 : Int32) then
                (fX1_hasCamphor (T8 8 0) S6).bind fun r15 =>
                if r15 = 0 then
                  j14 ()
                else
                  (fX3_refuse (4 : Int32) (T8 7 0) T8).bind fun q16 =>
                  lt (q16.2) fun T17 =>
                  zb q16.1 (some (q16.1, (T17, S6)))
              else
                j14 ()) (fun _ => 
              bnd v4 3 <|
              lt (va_up T8 4 (upd (T8 4) v4.toNatClampNeg (T8 8 0))) fun T21 =>
              lt (v4 + (1 : Int32)) fun x22 =>
              fX3_readNumbers_L14 T S i1 p3 k122 n_ x22 T21 S6))
      else
        (fX3_refuse (2 : Int32) (T8 7 0) T8).bind fun q26 =>
        lt (q26.2) fun T27 =>
        zb q26.1 (some (q26.1, (T27, S6)))
def fX3_readNumbers (i1 : Int32) (T : M2) (S : M2) : Option (Int32 × (M2 × M2)) :=
  jn (α := Option (Int32 × (M2 × M2))) (β := Int32) (fun j1 =>
    if (4 : Int32) < i1 then
      j1 (1 : Int32)
    else
      j1 (3 : Int32)) (fun p3 => 
    fX3_readNumbers_L14 T S i1 p3
      (fun p30 =>
        some ((1 : Int32), (p30.1, p30.2)))
      400 (0 : Int32) T S)
def fX3_take (i1 : Int32) (T : M2) (S : M2) : Option (M2 × M2) :=
  if i1 = 4 then
    bnd (0 : Int32) 3 <|
    bnd (1 : Int32) 3 <|
    bnd (2 : Int32) 3 <|
    (fX1_addBolt (T 4 (0 : Int32).toNatClampNeg) (T 4 (1 : Int32).toNatClampNeg) (T 4 (2 : Int32).toNatClampNeg) S).bind fun q2 =>
    lt (q2) fun S3 =>
    some (T, S3)
  else
    if i1 = 5 then
      bnd (0 : Int32) 3 <|
      lt (va_up S 4 (fun _ => ((S 4 0) ||| ((1 : Int32) <<< ((T 4 (0 : Int32).toNatClampNeg) &&& 31))))) fun S5 =>
      some (T, S5)
    else
      if i1 = 6 then
        bnd (0 : Int32) 3 <|
        lt (va_up S 12 (fun _ => (T 4 (0 : Int32).toNatClampNeg))) fun S7 =>
        lt (va_up T 9 (fun _ => (1 : Int32))) fun T8 =>
        some (T8, S7)
      else
        if i1 = 7 then
          bnd (0 : Int32) 3 <|
          lt (va_up S 13 (fun _ => (T 4 (0 : Int32).toNatClampNeg))) fun S10 =>
          lt (va_up T 10 (fun _ => (1 : Int32))) fun T11 =>
          some (T11, S10)
        else
          bnd (0 : Int32) 3 <|
          bnd (1 : Int32) 3 <|
          bnd (2 : Int32) 3 <|
          (fX1_addMoth i1 (T 4 (0 : Int32).toNatClampNeg) (T 4 (1 : Int32).toNatClampNeg) (T 4 (2 : Int32).toNatClampNeg) S).bind fun q12 =>
          lt (q12) fun S13 =>
          some (T, S13)
def fX3_tellLine  (T : M2) (S : M2) : Option (Int32 × (M2 × M2)) :=
  jn (α := Option (Int32 × (M2 × M2))) (β := Int32) (fun j1 =>
    if (T 6 0) = (1 : Int32) then
      (fX3_lineNamed  T).bind fun r2 =>
      j1 r2
    else
      j1 (-1 : Int32)) (fun p4 => 
    if p4 = (-1 : Int32) then
      (fX3_refuse (2 : Int32) (T 7 0) T).bind fun q41 =>
      lt (q41.2) fun T42 =>
      zb q41.1 (some (q41.1, (T42, S)))
    else
      jn (α := Option (Int32 × (M2 × M2))) (β := Unit) (fun j6 =>
        jn (α := Option (Int32 × (M2 × M2))) (β := Unit) (fun j5 =>
          if p4 = (6 : Int32) then
            if (T 9 0) = 0 then
              j5 ()
            else
              j6 ()
          else
            j5 ()) (fun _ => 
          jn (α := Option (Int32 × (M2 × M2))) (β := Unit) (fun j10 =>
            if p4 = (7 : Int32) then
              if (T 10 0) = 0 then
                j10 ()
              else
                j6 ()
            else
              j10 ()) (fun _ => 
            jn (α := Option (Int32 × (M2 × M2))) (β := Unit) (fun j15 =>
              jn (α := Option (Int32 × (M2 × M2))) (β := Unit) (fun j14 =>
                if p4 = (4 : Int32) then
                  if (5 : Int32) ≤ (S 0 0) then
                    j15 ()
                  else
                    j14 ()
                else
                  j14 ()) (fun _ => 
                jn (α := Option (Int32 × (M2 × M2))) (β := Unit) (fun j19 =>
                  if (3 : Int32) < p4 then
                    j19 ()
                  else
                    if (S 7 0) < (4 : Int32) then
                      j19 ()
                    else
                      j15 ()) (fun _ => 
                  (fX3_readNumbers p4 T S).bind fun q23 =>
                  lt q23.2.1 fun T24 => lt q23.2.2 fun S25 =>
                  if q23.1 = 0 then
                    some ((0 : Int32), (T24, S25))
                  else
                    (fX3_nextToken  T24).bind fun q26 =>
                    lt (q26) fun T27 =>
                    if (T27 6 0) = (3 : Int32) then
                      (fX3_take p4 T27 S25).bind fun q28 =>
                      lt q28.1 fun T29 => lt q28.2 fun S30 =>
                      some ((1 : Int32), (T29, S30))
                    else
                      (fX3_refuse (2 : Int32) (T27 7 0) T27).bind fun q31 =>
                      lt (q31.2) fun T32 =>
                      zb q31.1 (some (q31.1, (T32, S25)))))) (fun _ => 
              (fX3_refuse (5 : Int32) (T 7 0) T).bind fun q36 =>
              lt (q36.2) fun T37 =>
              zb q36.1 (some (q36.1, (T37, S))))))) (fun _ => 
        (fX3_refuse (4 : Int32) (T 7 0) T).bind fun q39 =>
        lt (q39.2) fun T40 =>
        zb q39.1 (some (q39.1, (T40, S)))))
def fX3_tellInto_L30 (T : M2) (S : M2) (k63 : (Int32 × M2 × M2) → Option (Int32 × (M2 × M2))) : Nat → Int32 → M2 → M2 → Option (Int32 × (M2 × M2))
  | 0, _, _, _ => none
  | n_ + 1, v9, T10, S11 =>
    if (160 : Int32) ≤ v9 then
      k63 (v9, T10, S11)
    else
      if (T10 6 0) = (4 : Int32) then
        k63 (v9, T10, S11)
      else
        (fX3_tellLine  T10 S11).bind fun q12 =>
        lt q12.2.1 fun T13 => lt q12.2.2 fun S14 =>
        if q12.1 = 0 then
          k63 (v9, T13, S14)
        else
          lt (v9 + (1 : Int32)) fun x15 =>
          (fX3_nextToken  T13).bind fun q16 =>
          lt (q16) fun T17 =>
          fX3_tellInto_L30 T S k63 n_ x15 T17 S14
def fX3_tellInto  (T : M2) (S : M2) : Option (Int32 × (M2 × M2)) :=
  (fX1_makeEmpty  S).bind fun q1 =>
  lt (q1) fun S2 =>
  lt (va_up T 2 (fun _ => (0 : Int32))) fun T3 =>
  lt (va_up T3 5 (fun _ => (0 : Int32))) fun T4 =>
  lt (va_up T4 9 (fun _ => (0 : Int32))) fun T5 =>
  lt (va_up T5 10 (fun _ => (0 : Int32))) fun T6 =>
  (fX3_nextToken  T6).bind fun q7 =>
  lt (q7) fun T8 =>
  fX3_tellInto_L30 T S
    (fun p21 =>
      jn (α := Option (Int32 × (M2 × M2))) (β := M2) (fun j22 =>
        if ((p21.2.2 4 0) >>> ((p21.2.2 0 0) &&& 31)) = 0 then
          j22 p21.2.1
        else
          (fX3_refuse (6 : Int32) (p21.2.1 1 0) p21.2.1).bind fun q23 =>
          lt (q23.2) fun T24 =>
          j22 T24) (fun p26 => 
        lt (va_up p26 1 (fun _ => (0 : Int32))) fun T27 =>
        some (p21.1, (T27, p21.2.2))))
    400 (0 : Int32) T8 S2
def fX0_weighFolding  (T : M2) (S : M2) (N : M2) : Option (M2 × M2) :=
  (fX1_copyHolesFrom  S N).bind fun q1 =>
  lt (q1) fun S2 =>
  (fX1_letLoose (15 : Int32) S2).bind fun q3 =>
  lt (q3) fun S4 =>
  (fX1_dutyOfAll  S4).bind fun r5 =>
  if (T 3 0) ≤ r5 then
    some (T, S4)
  else
    lt (va_up T 3 (fun _ => r5)) fun T6 =>
    lt (va_up T6 2 (va_cpy (T6 1) (T6 2) 0 0 5)) fun T7 =>
    some (T7, S4)
def fX0_placeFrom_L38 (T : M2) (S : M2) (i2 : Int32) (i3 : Int32) (N : M2) (self : Int32 → Int32 → M2 → M2 → Option (M2 × M2)) (v1 : Int32) (x4 : Int32) (k201 : (M2 × M2) → Option (M2 × M2)) : Nat → Int32 → M2 → M2 → Option (M2 × M2)
  | 0, _, _, _ => none
  | n_ + 1, v5, T6, S7 =>
    if (N 0 0) ≤ v5 then
      k201 (T6, S7)
    else
      lt (((v1 * (5 : Int32)) + v5)) fun x8 =>
      lt ((if (0 : Int32) < ((v5 + (1 : Int32)) - x4) then ((v5 + (1 : Int32)) - x4) else (0 : Int32))) fun x9 =>
      jn (α := Option (M2 × M2)) (β := M2 × M2) (fun j10 =>
        if (((T6 4 0) >>> (x8 &&& 31)) &&& (1 : Int32)) = (1 : Int32) then
          j10 (T6, S7)
        else
          if (N 0 0) < (i3 + x9) then
            j10 (T6, S7)
          else
            if (T6 3 0) = 0 then
              j10 (T6, S7)
            else
              lt (va_up T6 4 (fun _ => ((T6 4 0) ||| ((1 : Int32) <<< (x8 &&& 31))))) fun T11 =>
              bnd x8 15 <|
              lt (va_up S7 5 (upd (S7 5) x8.toNatClampNeg i2)) fun S12 =>
              bnd v1 3 <|
              lt (va_up S12 6 (upd (S12 6) v1.toNatClampNeg (x4 + x9))) fun S13 =>
              bnd i2 5 <|
              lt (va_up T11 1 (upd (T11 1) i2.toNatClampNeg (((10 : Int32) * v1) + v5))) fun T14 =>
              (self (i2 + (1 : Int32)) (i3 + x9) T14 S13).bind fun q15 =>
              lt q15.1 fun T16 => lt q15.2 fun S17 =>
              bnd v1 3 <|
              lt (va_up S17 6 (upd (S17 6) v1.toNatClampNeg x4)) fun S18 =>
              lt (va_up T16 4 (fun _ => ((T16 4 0) &&& (((1 : Int32) <<< (x8 &&& 31)) ^^^ (-1 : Int32))))) fun T19 =>
              j10 (T19, S18)) (fun p23 => 
        lt (v5 + (1 : Int32)) fun x24 =>
        fX0_placeFrom_L38 T S i2 i3 N self v1 x4 k201 n_ x24 p23.1 p23.2)
def fX0_placeFrom_L17 (T : M2) (S : M2) (i2 : Int32) (i3 : Int32) (N : M2) (self : Int32 → Int32 → M2 → M2 → Option (M2 × M2)) (k207 : (M2 × M2) → Option (M2 × M2)) : Nat → Int32 → M2 → M2 → Option (M2 × M2)
  | 0, _, _, _ => none
  | n_ + 1, v1, T2, S3 =>
    if (3 : Int32) ≤ v1 then
      k207 (T2, S3)
    else
      bnd v1 3 <|
      lt ((S3 6 v1.toNatClampNeg)) fun x4 =>
      fX0_placeFrom_L38 T S i2 i3 N self v1 x4
        (fun p26 =>
          lt (v1 + (1 : Int32)) fun x27 =>
          fX0_placeFrom_L17 T S i2 i3 N self k207 n_ x27 p26.1 p26.2)
        400 (0 : Int32) T2 S3
def fX0_placeFrom : Nat → Int32 → Int32 → M2 → M2 → M2 → Option (M2 × M2)
  | 0, _, _, _, _, _ => none
  | n_ + 1, i2, i3, T, S, N =>
    if i2 < (N 0 0) then
      fX0_placeFrom_L17 T S i2 i3 N (fun i2 i3 T S => fX0_placeFrom n_ i2 i3 T S N)
        (fun p29 =>
          some (p29.1, p29.2))
        400 (0 : Int32) T S
    else
      (fX0_weighFolding  T S N).bind fun q30 =>
      lt q30.1 fun T31 => lt q30.2 fun S32 =>
      some (T31, S32)
def fX0_findBest_L10 (T : M2) (N : M2) (k31 : (M2 × M2) → Option (M2 × M2)) : Nat → Int32 → M2 → M2 → Option (M2 × M2)
  | 0, _, _, _ => none
  | n_ + 1, v3, T4, S5 =>
    if (3 : Int32) ≤ v3 then
      k31 (T4, S5)
    else
      bnd v3 3 <|
      lt (va_up S5 6 (upd (S5 6) v3.toNatClampNeg (0 : Int32))) fun S6 =>
      lt (v3 + (1 : Int32)) fun x7 =>
      fX0_findBest_L10 T N k31 n_ x7 T4 S6
def fX0_findBest  (T : M2) (S : M2) (N : M2) : Option (M2 × M2) :=
  (fX1_copyFrom  S N).bind fun q1 =>
  lt (q1) fun S2 =>
  fX0_findBest_L10 T N
    (fun p9 =>
      lt (va_up p9.1 3 (fun _ => (406 : Int32))) fun T10 =>
      lt (va_up T10 4 (fun _ => (0 : Int32))) fun T11 =>
      (fX0_placeFrom 7 (0 : Int32) (0 : Int32) T11 p9.2 N).bind fun q12 =>
      lt q12.1 fun T13 => lt q12.2 fun S14 =>
      some (T13, S14))
    400 (0 : Int32) T S2
def fX0_exchange (i1 : Int32) (i2 : Int32) (S : M2) : Option (M2) :=
  bnd i1 15 <|
  lt ((S 5 i1.toNatClampNeg)) fun x1 =>
  bnd i2 15 <|
  bnd i1 15 <|
  lt (va_up S 5 (upd (S 5) i1.toNatClampNeg (S 5 i2.toNatClampNeg))) fun S2 =>
  bnd i2 15 <|
  lt (va_up S2 5 (upd (S2 5) i2.toNatClampNeg x1)) fun S3 =>
  some S3
def fX0_orderFrom_L73 (T : M2) (S : M2) (i2 : Int32) (i3 : Int32) (self : Int32 → Int32 → M2 → M2 → Option (M2 × M2)) (k120 : (M2 × M2) → Option (M2 × M2)) : Nat → Int32 → M2 → M2 → Option (M2 × M2)
  | 0, _, _, _ => none
  | n_ + 1, v1, T2, S3 =>
    if i3 ≤ v1 then
      k120 (T2, S3)
    else
      (fX0_exchange i2 v1 S3).bind fun q4 =>
      lt (q4) fun S5 =>
      (self (i2 + (1 : Int32)) i3 T2 S5).bind fun q6 =>
      lt q6.1 fun T7 => lt q6.2 fun S8 =>
      (fX0_exchange i2 v1 S8).bind fun q9 =>
      lt (q9) fun S10 =>
      lt (v1 + (1 : Int32)) fun x11 =>
      fX0_orderFrom_L73 T S i2 i3 self k120 n_ x11 T7 S10
def fX0_orderFrom : Nat → Int32 → Int32 → M2 → M2 → M2 → Option (M2 × M2)
  | 0, _, _, _, _, _ => none
  | n_ + 1, i2, i3, T, S, N =>
    if i2 < i3 then
      fX0_orderFrom_L73 T S i2 i3 (fun i2 i3 T S => fX0_orderFrom n_ i2 i3 T S N)
        (fun p13 =>
          some (p13.1, p13.2))
        400 i2 T S
    else
      (fX1_copyHolesFrom  S N).bind fun q14 =>
      lt (q14) fun S15 =>
      (fX1_letLoose (15 : Int32) S15).bind fun q16 =>
      lt (q16) fun S17 =>
      if (5 : Int32) = 0 then none else
      bnd ((i3 - (1 : Int32)) - ((i3 - (1 : Int32)) - (i3 - (1 : Int32)) / (5 : Int32) * (5 : Int32))) 15 <|
      lt ((S17 5 ((i3 - (1 : Int32)) - ((i3 - (1 : Int32)) - (i3 - (1 : Int32)) / (5 : Int32) * (5 : Int32))).toNatClampNeg)) fun x18 =>
      (fX1_isAsSeen (0 : Int32) S17).bind fun r19 =>
      if r19 = 0 then
        lt (va_up T 5 (fun _ => ((T 5 0) ||| (0 : Int32)))) fun T20 =>
        some (T20, S17)
      else
        lt (va_up T 5 (fun _ => ((T 5 0) ||| ((1 : Int32) <<< (x18 &&& 31))))) fun T21 =>
        some (T21, S17)
def fX0_findTops (i2 : Int32) (T : M2) (S : M2) (N : M2) : Option (Int32 × (M2 × M2)) :=
  (fX1_copyFrom  S N).bind fun q1 =>
  lt (q1) fun S2 =>
  lt (va_up T 5 (fun _ => (0 : Int32))) fun T3 =>
  bnd i2 3 <|
  if (N 6 i2.toNatClampNeg) ≤ 0 then
    some ((T3 5 0), (T3, S2))
  else
    bnd i2 3 <|
    (fX0_orderFrom 7 (i2 * (5 : Int32)) ((i2 * (5 : Int32)) + (N 6 i2.toNatClampNeg)) T3 S2 N).bind fun q4 =>
    lt q4.1 fun T5 => lt q4.2 fun S6 =>
    some ((T5 5 0), (T5, S6))
def fX4_feed (i1 : Int32) (X : M3) : Option (Int32 × M3) :=
  (fX4_within i1 (0 : Int32) (127 : Int32)).bind fun r1 =>
  if r1 = 0 then
    some ((-1 : Int32), X)
  else
    if ((X 1) 1 0) < (160 : Int32) then
      bnd ((X 1) 1 0) 160 <|
      lt ((va_up X 1 (va_up (X 1) 0 (upd ((X 1) 0) ((X 1) 1 0).toNatClampNeg i1)))) fun X2 =>
      lt ((va_up X2 1 (va_up (X2 1) 1 (fun _ => (((X2 1) 1 0) + (1 : Int32)))))) fun X3 =>
      some (((X3 1) 1 0), X3)
    else
      some ((-3 : Int32), X)
def fX4_end (i1 : Int32) (X : M3) : Option (Int32 × M3) :=
  (fX4_within i1 (0 : Int32) ((X 1) 1 0)).bind fun r1 =>
  if r1 = 0 then
    some ((-1 : Int32), X)
  else
    lt (((X 1) 1 0)) fun x2 =>
    lt ((va_up X 1 (va_up (X 1) 1 (fun _ => i1)))) fun X3 =>
    some (x2, X3)
def fX4_text  (X : M3) : Option (Int32 × M3) :=
  (fX3_tellInto  (X 1) (X 3)).bind fun q1 =>
  lt ((va_up (va_up X 1 q1.2.1) 3 q1.2.2)) fun X2 =>
  if ((X2 1) 2 0) = 0 then
    (fX1_copyFrom  (X2 2) (X2 3)).bind fun q3 =>
    lt ((va_up X2 2 q3)) fun X4 =>
    lt ((va_up X4 0 (va_up (X4 0) 6 (fun _ => (0 : Int32))))) fun X5 =>
    some (q1.1, X5)
  else
    some (((-10 : Int32) - ((X2 1) 3 0)), X2)
def fX4_fault  (X : M3) : Option (Int32) :=
  some ((X 1) 2 0)
def fX4_rule (i1 : Int32) (X : M3) : Option (Int32) :=
  if i1 = 0 then
    some ((X 2) 0 0)
  else
    if i1 = 1 then
      some ((X 2) 7 0)
    else
      if i1 = 2 then
        some ((X 2) 12 0)
      else
        if i1 = 3 then
          some ((X 2) 13 0)
        else
          if i1 = 4 then
            some ((X 2) 14 0)
          else
            if i1 = 5 then
              some ((X 2) 4 0)
            else
              if i1 = 6 then
                (fX1_eatenUp  (X 2)).bind fun r8 =>
                some r8
              else
                some (-1 : Int32)
def fX4_bolt (i1 : Int32) (i2 : Int32) (X : M3) : Option (Int32) :=
  (fX1_hasBolt i1 (X 2)).bind fun r1 =>
  if r1 = 0 then
    some (-1 : Int32)
  else
    if i2 = 0 then
      bnd i1 5 <|
      some ((X 2) 1 i1.toNatClampNeg)
    else
      if i2 = 1 then
        bnd i1 5 <|
        some ((X 2) 2 i1.toNatClampNeg)
      else
        if i2 = 2 then
          bnd i1 5 <|
          some ((X 2) 3 i1.toNatClampNeg)
        else
          if i2 = 3 then
            some ((((X 2) 4 0) >>> (i1 &&& 31)) &&& (1 : Int32))
          else
            if i2 = 4 then
              (fX1_baleOf i1 (X 2)).bind fun r7 =>
              some r7
            else
              if i2 = 5 then
                (fX1_layerOf i1 (X 2)).bind fun r9 =>
                some r9
              else
                some (-1 : Int32)
def fX4_moth (i1 : Int32) (i2 : Int32) (X : M3) : Option (Int32) :=
  (fX1_hasMoth i1 (X 2)).bind fun r1 =>
  if r1 = 0 then
    some (-1 : Int32)
  else
    if i2 = 4 then
      (fX1_appetite i1 (X 2)).bind fun r3 =>
      some r3
    else
      if i2 = 5 then
        (fX1_liked i1 (X 2)).bind fun r5 =>
        some r5
      else
        (fX1_trait i1 i2 (X 2)).bind fun r6 =>
        some r6
def fX4_bale (i1 : Int32) (i2 : Int32) (X : M3) : Option (Int32) :=
  (fX4_isBale i1).bind fun r1 =>
  if r1 = 0 then
    some (-1 : Int32)
  else
    if i2 = 0 then
      bnd i1 3 <|
      some ((X 2) 6 i1.toNatClampNeg)
    else
      if i2 = (1 : Int32) then
        (fX1_dutyOf i1 (X 2)).bind fun r6 =>
        some r6
      else
        (fX4_within i2 (10 : Int32) (14 : Int32)).bind fun r2 =>
        if r2 = 0 then
          some (-1 : Int32)
        else
          lt ((i2 - (10 : Int32))) fun x3 =>
          bnd i1 3 <|
          if ((X 2) 6 i1.toNatClampNeg) ≤ x3 then
            some (-4 : Int32)
          else
            bnd ((i1 * (5 : Int32)) + x3) 15 <|
            some ((X 2) 5 ((i1 * (5 : Int32)) + x3).toNatClampNeg)
def fX4_fold (i1 : Int32) (i2 : Int32) (X : M3) : Option (Int32 × M3) :=
  (fX1_hasBolt i1 (X 2)).bind fun r1 =>
  if r1 = 0 then
    some ((-1 : Int32), X)
  else
    (fX4_isBale i2).bind fun r2 =>
    if r2 = 0 then
      some ((-1 : Int32), X)
    else
      (fX1_putOnTop i1 i2 (X 2)).bind fun q3 =>
      lt ((va_up X 2 q3)) fun X4 =>
      bnd i2 3 <|
      some (((X4 2) 6 i2.toNatClampNeg), X4)
def fX4_under (i1 : Int32) (i2 : Int32) (X : M3) : Option (Int32 × M3) :=
  (fX1_hasBolt i1 (X 2)).bind fun r1 =>
  if r1 = 0 then
    some ((-1 : Int32), X)
  else
    (fX4_isBale i2).bind fun r2 =>
    if r2 = 0 then
      some ((-1 : Int32), X)
    else
      (fX1_takeOut i1 (X 2)).bind fun q3 =>
      lt ((va_up X 2 q3)) fun X4 =>
      (fX1_putBelow i1 i2 (X4 2)).bind fun q5 =>
      lt ((va_up X4 2 q5)) fun X6 =>
      bnd i2 3 <|
      some (((X6 2) 6 i2.toNatClampNeg), X6)
def fX4_swap (i1 : Int32) (i2 : Int32) (X : M3) : Option (Int32 × M3) :=
  (fX1_hasBolt i1 (X 2)).bind fun r1 =>
  if r1 = 0 then
    some ((-1 : Int32), X)
  else
    (fX1_hasBolt i2 (X 2)).bind fun r2 =>
    if r2 = 0 then
      some ((-1 : Int32), X)
    else
      if i1 = i2 then
        some ((-1 : Int32), X)
      else
        (fX1_spotOf i1 (X 2)).bind fun r3 =>
        (fX1_spotOf i2 (X 2)).bind fun r4 =>
        bnd r3 15 <|
        lt ((va_up X 2 (va_up (X 2) 5 (upd ((X 2) 5) r3.toNatClampNeg i2)))) fun X5 =>
        bnd r4 15 <|
        lt ((va_up X5 2 (va_up (X5 2) 5 (upd ((X5 2) 5) r4.toNatClampNeg i1)))) fun X6 =>
        (fX1_baleOf i1 (X6 2)).bind fun r7 =>
        some (r7, X6)
def fX4_camphor (i1 : Int32) (i2 : Int32) (X : M3) : Option (Int32 × M3) :=
  (fX1_hasBolt i1 (X 2)).bind fun r1 =>
  if r1 = 0 then
    some ((-1 : Int32), X)
  else
    lt (((((X 2) 4 0) >>> (i1 &&& 31)) &&& (1 : Int32))) fun x2 =>
    if i2 = 0 then
      lt ((va_up X 2 (va_up (X 2) 4 (fun _ => (((X 2) 4 0) &&& (((1 : Int32) <<< (i1 &&& 31)) ^^^ (-1 : Int32))))))) fun X3 =>
      some (x2, X3)
    else
      lt ((va_up X 2 (va_up (X 2) 4 (fun _ => (((X 2) 4 0) ||| ((1 : Int32) <<< (i1 &&& 31))))))) fun X4 =>
      some (x2, X4)
def fX4_patch (i1 : Int32) (i2 : Int32) (X : M3) : Option (Int32 × M3) :=
  (fX1_hasBolt i1 (X 2)).bind fun r1 =>
  if r1 = 0 then
    some ((-1 : Int32), X)
  else
    (fX4_within i2 (0 : Int32) (9 : Int32)).bind fun r2 =>
    if r2 = 0 then
      some ((-1 : Int32), X)
    else
      bnd i1 5 <|
      if i2 ≤ ((X 2) 3 i1.toNatClampNeg) then
        bnd i1 5 <|
        bnd i1 5 <|
        lt ((va_up X 2 (va_up (X 2) 3 (upd ((X 2) 3) i1.toNatClampNeg (((X 2) 3 i1.toNatClampNeg) - i2))))) fun X3 =>
        bnd i1 5 <|
        some (((X3 2) 3 i1.toNatClampNeg), X3)
      else
        some ((-2 : Int32), X)
def fX4_prick (i1 : Int32) (X : M3) : Option (Int32 × M3) :=
  (fX1_hasBolt i1 (X 2)).bind fun r1 =>
  if r1 = 0 then
    some ((-1 : Int32), X)
  else
    bnd i1 5 <|
    bnd i1 5 <|
    if ((X 2) 3 i1.toNatClampNeg) < ((X 2) 2 i1.toNatClampNeg) then
      bnd i1 5 <|
      bnd i1 5 <|
      lt ((va_up X 2 (va_up (X 2) 3 (upd ((X 2) 3) i1.toNatClampNeg (((X 2) 3 i1.toNatClampNeg) + (1 : Int32)))))) fun X2 =>
      bnd i1 5 <|
      some (((X2 2) 3 i1.toNatClampNeg), X2)
    else
      some ((-3 : Int32), X)
def fX4_alter (i1 : Int32) (i2 : Int32) (i3 : Int32) (X : M3) : Option (Int32 × M3) :=
  (fX1_hasMoth i1 (X 2)).bind fun r1 =>
  if r1 = 0 then
    some ((-1 : Int32), X)
  else
    (fX4_within i2 (0 : Int32) (3 : Int32)).bind fun r2 =>
    if r2 = 0 then
      some ((-1 : Int32), X)
    else
      (fX4_mostOfTrait i2).bind fun r3 =>
      (fX4_within i3 (0 : Int32) r3).bind fun r4 =>
      if r4 = 0 then
        some ((-1 : Int32), X)
      else
        (fX1_trait i1 i2 (X 2)).bind fun r5 =>
        (fX1_setTrait i1 i2 i3 (X 2)).bind fun q6 =>
        lt ((va_up X 2 q6)) fun X7 =>
        some (r5, X7)
def fX4_set (i1 : Int32) (i2 : Int32) (X : M3) : Option (Int32 × M3) :=
  jn (α := Option (Int32 × M3)) (β := Unit) (fun j1 =>
    if i1 = 0 then
      (fX4_within i2 (0 : Int32) (3 : Int32)).bind fun r2 =>
      if r2 = 0 then
        j1 ()
      else
        lt (((X 2) 12 0)) fun x3 =>
        lt ((va_up X 2 (va_up (X 2) 12 (fun _ => i2)))) fun X4 =>
        some (x3, X4)
    else
      j1 ()) (fun _ => 
    if i1 = (1 : Int32) then
      (fX4_within i2 (1 : Int32) (9 : Int32)).bind fun r8 =>
      if r8 = 0 then
        some ((-1 : Int32), X)
      else
        lt (((X 2) 13 0)) fun x9 =>
        lt ((va_up X 2 (va_up (X 2) 13 (fun _ => i2)))) fun X10 =>
        some (x9, X10)
    else
      some ((-1 : Int32), X))
def fX4_go_L32 (i1 : Int32) (k50 : M3 → Option (Int32 × M3)) : Nat → Int32 → M3 → Option (Int32 × M3)
  | 0, _, _ => none
  | n_ + 1, v2, X3 =>
    if i1 ≤ v2 then
      k50 X3
    else
      (fX1_passNight  (X3 2)).bind fun q4 =>
      lt ((va_up X3 2 q4)) fun X5 =>
      lt (v2 + (1 : Int32)) fun x6 =>
      fX4_go_L32 i1 k50 n_ x6 X5
def fX4_go (i1 : Int32) (X : M3) : Option (Int32 × M3) :=
  (fX4_within i1 (0 : Int32) (20 : Int32)).bind fun r1 =>
  if r1 = 0 then
    some ((-1 : Int32), X)
  else
    if (((X 2) 14 0) + i1) ≤ (999 : Int32) then
      fX4_go_L32 i1
        (fun p8 =>
          (fX1_dutyOfAll  (p8 2)).bind fun r9 =>
          some (r9, p8))
        400 (0 : Int32) X
    else
      some ((-3 : Int32), X)
def fX4_ahead_L34 (i1 : Int32) (i2 : Int32) (k52 : M3 → Option (Int32 × M3)) : Nat → Int32 → M3 → Option (Int32 × M3)
  | 0, _, _ => none
  | n_ + 1, v5, X6 =>
    if i1 ≤ v5 then
      k52 X6
    else
      (fX1_passNight  (X6 3)).bind fun q7 =>
      lt ((va_up X6 3 q7)) fun X8 =>
      lt (v5 + (1 : Int32)) fun x9 =>
      fX4_ahead_L34 i1 i2 k52 n_ x9 X8
def fX4_ahead (i1 : Int32) (i2 : Int32) (X : M3) : Option (Int32 × M3) :=
  (fX4_within i1 (0 : Int32) (20 : Int32)).bind fun r1 =>
  if r1 = 0 then
    some ((-1 : Int32), X)
  else
    (fX4_within i2 (0 : Int32) (2 : Int32)).bind fun r2 =>
    if r2 = 0 then
      some ((-1 : Int32), X)
    else
      (fX1_copyFrom  (X 3) (X 2)).bind fun q3 =>
      lt ((va_up X 3 q3)) fun X4 =>
      fX4_ahead_L34 i1 i2
        (fun p11 =>
          if i2 = 0 then
            (fX1_dutyOfAll  (p11 3)).bind fun r15 =>
            some (r15, p11)
          else
            if i2 = (1 : Int32) then
              (fX1_holesInAll  (p11 3)).bind fun r13 =>
              some (r13, p11)
            else
              (fX1_eatenUp  (p11 3)).bind fun r12 =>
              some (r12, p11))
        400 (0 : Int32) X4
def fX4_when_L26 (i1 : Int32) (k58 : M3 → Option (Int32 × M3)) : Nat → Int32 → M3 → Option (Int32 × M3)
  | 0, _, _ => none
  | n_ + 1, v4, X5 =>
    if (40 : Int32) < v4 then
      k58 X5
    else
      (fX1_isEatenUp i1 (X5 3)).bind fun r6 =>
      if r6 = 0 then
        (fX1_passNight  (X5 3)).bind fun q7 =>
        lt ((va_up X5 3 q7)) fun X8 =>
        lt (v4 + (1 : Int32)) fun x9 =>
        fX4_when_L26 i1 k58 n_ x9 X8
      else
        some (v4, X5)
def fX4_when (i1 : Int32) (X : M3) : Option (Int32 × M3) :=
  (fX1_hasBolt i1 (X 2)).bind fun r1 =>
  if r1 = 0 then
    some ((-1 : Int32), X)
  else
    (fX1_copyFrom  (X 3) (X 2)).bind fun q2 =>
    lt ((va_up X 3 q2)) fun X3 =>
    fX4_when_L26 i1
      (fun p12 =>
        some ((-4 : Int32), p12))
      400 (0 : Int32) X3
def fX4_tryNight (i1 : Int32) (X : M3) : Option (M3) :=
  (fX1_copyFrom  (X 3) (X 2)).bind fun q1 =>
  lt ((va_up X 3 q1)) fun X2 =>
  (fX1_letLoose i1 (X2 3)).bind fun q3 =>
  lt ((va_up X2 3 q3)) fun X4 =>
  some X4
def fX4_eats (i1 : Int32) (X : M3) : Option (Int32 × M3) :=
  (fX1_hasMoth i1 (X 2)).bind fun r1 =>
  if r1 = 0 then
    some ((-1 : Int32), X)
  else
    (fX4_tryNight ((1 : Int32) <<< (i1 &&& 31)) X).bind fun q2 =>
    lt (q2) fun X3 =>
    (fX1_holesInAll  (X3 3)).bind fun r4 =>
    (fX1_holesInAll  (X3 2)).bind fun r5 =>
    some ((r4 - r5), X3)
def fX4_duty (i1 : Int32) (X : M3) : Option (Int32 × M3) :=
  if i1 = 0 then
    (fX1_dutyOfAll  (X 2)).bind fun r5 =>
    some (r5, X)
  else
    if i1 = (1 : Int32) then
      (fX4_tryNight (15 : Int32) X).bind fun q1 =>
      lt (q1) fun X2 =>
      (fX1_holesInAll  (X2 3)).bind fun r3 =>
      some ((r3 * ((X2 3) 13 0)), X2)
    else
      some ((-1 : Int32), X)
def fX4_best (i1 : Int32) (X : M3) : Option (Int32 × M3) :=
  jn (α := Option (Int32 × M3)) (β := Int32) (fun j2 =>
    jn (α := Option (Int32 × M3)) (β := Unit) (fun j1 =>
      if i1 < (10 : Int32) then
        j1 ()
      else
        (fX1_hasBolt (i1 - (10 : Int32)) (X 2)).bind fun r3 =>
        if r3 = 0 then
          j1 ()
        else
          j2 (1 : Int32)) (fun _ => 
      j2 (0 : Int32))) (fun p7 => 
    jn (α := Option (Int32 × M3)) (β := Unit) (fun j8 =>
      if i1 = 0 then
        j8 ()
      else
        if p7 = 0 then
          some ((-1 : Int32), X)
        else
          j8 ()) (fun _ => 
      (fX0_findBest  (X 10) (X 11) (X 2)).bind fun q12 =>
      lt ((va_up (va_up X 10 q12.1) 11 q12.2)) fun X13 =>
      if p7 = 0 then
        some (((X13 10) 3 0), X13)
      else
        bnd (i1 - (10 : Int32)) 5 <|
        some (((X13 10) 2 (i1 - (10 : Int32)).toNatClampNeg), X13)))
def fX4_leastBy_L32 (i1 : Int32) (i2 : Int32) (k134 : (Int32 × Int32 × M3) → Option (Int32 × M3)) : Nat → Int32 → Int32 → Int32 → M3 → Option (Int32 × M3)
  | 0, _, _, _, _ => none
  | n_ + 1, v5, v6, v7, X8 =>
    if ((X8 2) 0 0) ≤ v7 then
      k134 (v5, v6, X8)
    else
      (fX1_copyFrom  (X8 3) (X8 2)).bind fun q9 =>
      lt ((va_up X8 3 q9)) fun X10 =>
      jn (α := Option (Int32 × M3)) (β := M3) (fun j11 =>
        if i1 = 0 then
          (fX1_baleOf v7 (X10 3)).bind fun r12 =>
          (fX1_putOnTop v7 r12 (X10 3)).bind fun q13 =>
          lt ((va_up X10 3 q13)) fun X14 =>
          j11 X14
        else
          lt ((va_up X10 3 (va_up (X10 3) 4 (fun _ => (((X10 3) 4 0) ||| ((1 : Int32) <<< (v7 &&& 31))))))) fun X15 =>
          j11 X15) (fun p17 => 
        (fX1_letLoose (15 : Int32) (p17 3)).bind fun q18 =>
        lt ((va_up p17 3 q18)) fun X19 =>
        (fX1_dutyOfAll  (X19 3)).bind fun r20 =>
        jn (α := Option (Int32 × M3)) (β := Int32 × Int32) (fun j21 =>
          if v6 ≤ r20 then
            j21 (v5, v6)
          else
            j21 (v7, r20)) (fun p23 => 
          lt (v7 + (1 : Int32)) fun x24 =>
          fX4_leastBy_L32 i1 i2 k134 n_ p23.1 p23.2 x24 X19))
def fX4_leastBy (i1 : Int32) (i2 : Int32) (X : M3) : Option (Int32 × M3) :=
  (fX4_within i2 (0 : Int32) (1 : Int32)).bind fun r1 =>
  if r1 = 0 then
    some ((-1 : Int32), X)
  else
    (fX4_tryNight (15 : Int32) X).bind fun q2 =>
    lt (q2) fun X3 =>
    (fX1_dutyOfAll  (X3 3)).bind fun r4 =>
    fX4_leastBy_L32 i1 i2
      (fun p26 =>
        if i2 = 0 then
          some (p26.1, p26.2.2)
        else
          if p26.1 = (-4 : Int32) then
            some (p26.1, p26.2.2)
          else
            some (p26.2.1, p26.2.2))
      400 (-4 : Int32) r4 (0 : Int32) X3
def fX4_guard (i1 : Int32) (X : M3) : Option (Int32 × M3) :=
  (fX4_leastBy (1 : Int32) i1 X).bind fun q1 =>
  lt (q1.2) fun X2 =>
  some (q1.1, X2)
def fX4_send_L30 (i1 : Int32) (i2 : Int32) (k96 : (Int32 × Int32 × M3) → Option (Int32 × M3)) : Nat → Int32 → Int32 → Int32 → M3 → Option (Int32 × M3)
  | 0, _, _, _, _ => none
  | n_ + 1, v3, v4, v5, X6 =>
    if (3 : Int32) ≤ v5 then
      k96 (v3, v4, X6)
    else
      (fX1_copyFrom  (X6 3) (X6 2)).bind fun q7 =>
      lt ((va_up X6 3 q7)) fun X8 =>
      bnd i1 4 <|
      lt ((va_up X8 3 (va_up (X8 3) 11 (upd ((X8 3) 11) i1.toNatClampNeg v5)))) fun X9 =>
      (fX1_letLoose (15 : Int32) (X9 3)).bind fun q10 =>
      lt ((va_up X9 3 q10)) fun X11 =>
      (fX1_dutyOfAll  (X11 3)).bind fun r12 =>
      jn (α := Option (Int32 × M3)) (β := Int32 × Int32) (fun j13 =>
        if r12 ≤ v4 then
          j13 (v3, v4)
        else
          j13 (v5, r12)) (fun p15 => 
        lt (v5 + (1 : Int32)) fun x16 =>
        fX4_send_L30 i1 i2 k96 n_ p15.1 p15.2 x16 X11)
def fX4_send (i1 : Int32) (i2 : Int32) (X : M3) : Option (Int32 × M3) :=
  (fX1_hasMoth i1 (X 2)).bind fun r1 =>
  if r1 = 0 then
    some ((-1 : Int32), X)
  else
    (fX4_within i2 (0 : Int32) (1 : Int32)).bind fun r2 =>
    if r2 = 0 then
      some ((-1 : Int32), X)
    else
      fX4_send_L30 i1 i2
        (fun p18 =>
          if i2 = 0 then
            some (p18.1, p18.2.2)
          else
            some (p18.2.1, p18.2.2))
        400 (0 : Int32) (-1 : Int32) (0 : Int32) X
def fX4_raise (i1 : Int32) (X : M3) : Option (Int32 × M3) :=
  (fX4_leastBy (0 : Int32) i1 X).bind fun q1 =>
  lt (q1.2) fun X2 =>
  some (q1.1, X2)
def fX4_weight_L5 (X : M3) (i1 : Int32) (i2 : Int32) (k46 : Int64 → Option (Int64)) : Nat → Int64 → Int32 → Option (Int64)
  | 0, _, _ => none
  | n_ + 1, w1, v2 =>
    if ((X 2) 7 0) ≤ v2 then
      k46 w1
    else
      jn (α := Option (Int64)) (β := Int64) (fun j3 =>
        if ((i2 >>> (v2 &&& 31)) &&& (1 : Int32)) = (1 : Int32) then
          j3 (i1.toInt64)
        else
          j3 (((10 : Int32) - i1).toInt64)) (fun p5 => 
        lt ((w1 * p5)) fun y6 =>
        lt (v2 + (1 : Int32)) fun x7 =>
        fX4_weight_L5 X i1 i2 k46 n_ y6 x7)
def fX4_weight (i1 : Int32) (i2 : Int32) (X : M3) : Option (Int64) :=
  fX4_weight_L5 X i1 i2
    (fun p9 =>
      some p9)
    400 (1 : Int64) (0 : Int32)
def fX4_partOfFraction_L6 (X : M3) (l1 : Int64) (i3 : Int32) (k32 : Int64 → Option (Int64)) : Nat → Int64 → Int32 → Option (Int64)
  | 0, _, _ => none
  | n_ + 1, w1, v2 =>
    if ((X 2) 7 0) ≤ v2 then
      k32 w1
    else
      lt ((w1 * (10 : Int64))) fun y3 =>
      lt (v2 + (1 : Int32)) fun x4 =>
      fX4_partOfFraction_L6 X l1 i3 k32 n_ y3 x4
def fX4_partOfFraction (l1 : Int64) (i3 : Int32) (X : M3) : Option (Int64) :=
  fX4_partOfFraction_L6 X l1 i3
    (fun p6 =>
      (fX4_commonDivisor p6 l1).bind fun r7 =>
      if 0 < (lg_cmp r7 (0 : Int64)) then
        if i3 = 0 then
          if r7 = 0 then none else
          some (l1 / r7)
        else
          if r7 = 0 then none else
          some (p6 / r7)
      else
        some (-1 : Int64))
    400 (1 : Int64) (0 : Int32)
def fX4_mean_L28 (i1 : Int32) (i2 : Int32) (k73 : (Int64 × M3) → Option (Int64 × M3)) : Nat → Int64 → Int32 → M3 → Option (Int64 × M3)
  | 0, _, _, _ => none
  | n_ + 1, w3, v4, X5 =>
    if ((1 : Int32) <<< (((X5 2) 7 0) &&& 31)) ≤ v4 then
      k73 (w3, X5)
    else
      (fX4_tryNight v4 X5).bind fun q6 =>
      lt (q6) fun X7 =>
      (fX4_weight i1 v4 X7).bind fun r8 =>
      (fX1_dutyOfAll  (X7 3)).bind fun r9 =>
      lt ((w3 + (r8 * (r9.toInt64)))) fun y10 =>
      lt (v4 + (1 : Int32)) fun x11 =>
      fX4_mean_L28 i1 i2 k73 n_ y10 x11 X7
def fX4_mean (i1 : Int32) (i2 : Int32) (X : M3) : Option (Int64 × M3) :=
  (fX4_within i1 (0 : Int32) (10 : Int32)).bind fun r1 =>
  if r1 = 0 then
    some ((-1 : Int64), X)
  else
    (fX4_within i2 (0 : Int32) (1 : Int32)).bind fun r2 =>
    if r2 = 0 then
      some ((-1 : Int64), X)
    else
      fX4_mean_L28 i1 i2
        (fun p13 =>
          (fX4_partOfFraction p13.1 i2 p13.2).bind fun r14 =>
          some (r14, p13.2))
        400 (0 : Int64) (0 : Int32) X
def fX4_luck_L40 (i1 : Int32) (i2 : Int32) (i3 : Int32) (k93 : (Int64 × M3) → Option (Int64 × M3)) : Nat → Int64 → Int32 → M3 → Option (Int64 × M3)
  | 0, _, _, _ => none
  | n_ + 1, w4, v5, X6 =>
    if ((1 : Int32) <<< (((X6 2) 7 0) &&& 31)) ≤ v5 then
      k93 (w4, X6)
    else
      (fX4_tryNight v5 X6).bind fun q7 =>
      lt (q7) fun X8 =>
      (fX1_isEatenUp i2 (X8 3)).bind fun r9 =>
      jn (α := Option (Int64 × M3)) (β := Int64) (fun j10 =>
        if r9 = 0 then
          j10 (0 : Int64)
        else
          (fX4_weight i1 v5 X8).bind fun r11 =>
          j10 r11) (fun p13 => 
        lt ((w4 + p13)) fun y14 =>
        lt (v5 + (1 : Int32)) fun x15 =>
        fX4_luck_L40 i1 i2 i3 k93 n_ y14 x15 X8)
def fX4_luck (i1 : Int32) (i2 : Int32) (i3 : Int32) (X : M3) : Option (Int64 × M3) :=
  (fX4_within i1 (0 : Int32) (10 : Int32)).bind fun r1 =>
  if r1 = 0 then
    some ((-1 : Int64), X)
  else
    (fX1_hasBolt i2 (X 2)).bind fun r2 =>
    if r2 = 0 then
      some ((-1 : Int64), X)
    else
      (fX4_within i3 (0 : Int32) (1 : Int32)).bind fun r3 =>
      if r3 = 0 then
        some ((-1 : Int64), X)
      else
        fX4_luck_L40 i1 i2 i3
          (fun p17 =>
            (fX4_partOfFraction p17.1 i3 p17.2).bind fun r18 =>
            some (r18, p17.2))
          400 (0 : Int64) (0 : Int32) X
def fX4_see (i1 : Int32) (i2 : Int32) (X : M3) : Option (Int32 × M3) :=
  (fX1_hasBolt i1 (X 2)).bind fun r1 =>
  if r1 = 0 then
    some ((-1 : Int32), X)
  else
    (fX4_within i2 (0 : Int32) (9 : Int32)).bind fun r2 =>
    if r2 = 0 then
      some ((-1 : Int32), X)
    else
      if ((X 2) 15 0) < (6 : Int32) then
        bnd ((X 2) 15 0) 6 <|
        lt ((va_up X 2 (va_up (X 2) 16 (upd ((X 2) 16) ((X 2) 15 0).toNatClampNeg i1)))) fun X3 =>
        bnd ((X3 2) 15 0) 6 <|
        lt ((va_up X3 2 (va_up (X3 2) 17 (upd ((X3 2) 17) ((X3 2) 15 0).toNatClampNeg i2)))) fun X4 =>
        lt ((va_up X4 2 (va_up (X4 2) 15 (fun _ => (((X4 2) 15 0) + (1 : Int32)))))) fun X5 =>
        some (((X5 2) 15 0), X5)
      else
        some ((-3 : Int32), X)
def fX4_forget (i1 : Int32) (X : M3) : Option (Int32 × M3) :=
  (fX4_within i1 (0 : Int32) ((X 2) 15 0)).bind fun r1 =>
  if r1 = 0 then
    some ((-1 : Int32), X)
  else
    lt (((X 2) 15 0)) fun x2 =>
    lt ((va_up X 2 (va_up (X 2) 15 (fun _ => i1)))) fun X3 =>
    some (x2, X3)
def fX4_tastes_L17 (i1 : Int32) (k75 : (Int32 × M3) → Option (Int32 × M3)) : Nat → Int32 → Int32 → M3 → Option (Int32 × M3)
  | 0, _, _, _ => none
  | n_ + 1, v2, v3, X4 =>
    if (5 : Int32) < v3 then
      k75 (v2, X4)
    else
      (fX1_copyFrom  (X4 3) (X4 2)).bind fun q5 =>
      lt ((va_up X4 3 q5)) fun X6 =>
      bnd i1 4 <|
      lt ((va_up X6 3 (va_up (X6 3) 9 (upd ((X6 3) 9) i1.toNatClampNeg v3)))) fun X7 =>
      (fX1_letLoose (15 : Int32) (X7 3)).bind fun q8 =>
      lt ((va_up X7 3 q8)) fun X9 =>
      (fX1_isAsSeen (0 : Int32) (X9 3)).bind fun r10 =>
      jn (α := Option (Int32 × M3)) (β := Int32) (fun j11 =>
        if r10 = 0 then
          j11 v2
        else
          lt ((v2 ||| ((1 : Int32) <<< (v3 &&& 31)))) fun x12 =>
          j11 x12) (fun p14 => 
        lt (v3 + (1 : Int32)) fun x15 =>
        fX4_tastes_L17 i1 k75 n_ p14 x15 X9)
def fX4_tastes (i1 : Int32) (X : M3) : Option (Int32 × M3) :=
  (fX1_hasMoth i1 (X 2)).bind fun r1 =>
  if r1 = 0 then
    some ((-1 : Int32), X)
  else
    fX4_tastes_L17 i1
      (fun p17 =>
        some (p17.1, p17.2))
      400 (0 : Int32) (0 : Int32) X
def fX4_bought_L4  (k50 : (Int32 × M3) → Option (Int32 × M3)) : Nat → Int32 → Int32 → M3 → Option (Int32 × M3)
  | 0, _, _, _ => none
  | n_ + 1, v1, v2, X3 =>
    if ((X3 2) 7 0) ≤ v2 then
      k50 (v1, X3)
    else
      (fX4_tryNight ((15 : Int32) &&& (((1 : Int32) <<< (v2 &&& 31)) ^^^ (-1 : Int32))) X3).bind fun q4 =>
      lt (q4) fun X5 =>
      (fX1_isAsSeen (0 : Int32) (X5 3)).bind fun r6 =>
      jn (α := Option (Int32 × M3)) (β := Int32) (fun j7 =>
        if r6 = 0 then
          j7 v1
        else
          lt ((v1 ||| ((1 : Int32) <<< (v2 &&& 31)))) fun x8 =>
          j7 x8) (fun p10 => 
        lt (v2 + (1 : Int32)) fun x11 =>
        fX4_bought_L4 k50 n_ p10 x11 X5)
def fX4_bought  (X : M3) : Option (Int32 × M3) :=
  fX4_bought_L4 
    (fun p13 =>
      some (p13.1, p13.2))
    400 (0 : Int32) (0 : Int32) X
def fX4_pricked_L25 (i1 : Int32) (X3 : M3) (k73 : (Int32 × Int32) → Option (Int32 × M3)) : Nat → Int32 → Int32 → Int32 → Option (Int32 × M3)
  | 0, _, _, _ => none
  | n_ + 1, v4, v5, v6 =>
    if ((1 : Int32) <<< (((X3 2) 0 0) &&& 31)) ≤ v6 then
      k73 (v4, v5)
    else
      (fX1_isAsSeen v6 (X3 3)).bind fun r7 =>
      jn (α := Option (Int32 × M3)) (β := Int32 × Int32) (fun j8 =>
        if r7 = 0 then
          j8 (v4, v5)
        else
          lt (v4 + (1 : Int32)) fun x9 =>
          jn (α := Option (Int32 × M3)) (β := Int32) (fun j10 =>
            if v5 = (-4 : Int32) then
              j10 v6
            else
              j10 v5) (fun p12 => 
            j8 (x9, p12))) (fun p14 => 
        lt (v6 + (1 : Int32)) fun x15 =>
        fX4_pricked_L25 i1 X3 k73 n_ p14.1 p14.2 x15)
def fX4_pricked (i1 : Int32) (X : M3) : Option (Int32 × M3) :=
  (fX4_within i1 (0 : Int32) (1 : Int32)).bind fun r1 =>
  if r1 = 0 then
    some ((-1 : Int32), X)
  else
    (fX4_tryNight (15 : Int32) X).bind fun q2 =>
    lt (q2) fun X3 =>
    fX4_pricked_L25 i1 X3
      (fun p17 =>
        if i1 = 0 then
          some (p17.1, X3)
        else
          some (p17.2, X3))
      400 (0 : Int32) (-4 : Int32) (0 : Int32)
def fX4_lain (i1 : Int32) (X : M3) : Option (Int32 × M3) :=
  (fX4_isBale i1).bind fun r1 =>
  if r1 = 0 then
    some ((-1 : Int32), X)
  else
    (fX0_findTops i1 (X 10) (X 11) (X 2)).bind fun q2 =>
    lt ((va_up (va_up X 10 q2.2.1) 11 q2.2.2)) fun X3 =>
    some (q2.1, X3)
def fX4_drift_L51 (i2 : Int32) (i3 : Int32) (k113 : M3 → Option (Int32 × M3)) : Nat → Int32 → Int32 → M3 → Option (Int32 × M3)
  | 0, _, _, _ => none
  | n_ + 1, v5, v6, X7 =>
    if i2 ≤ v6 then
      k113 X7
    else
      lt (((v5 * (1103515245 : Int32)) + (12345 : Int32))) fun x8 =>
      lt ((((x8.toUInt32 >>> ((16 : Int32).toUInt32 &&& Int32.toUInt32 31)).toInt32) &&& (32767 : Int32))) fun x9 =>
      if ((X7 2) 0 0) = 0 then none else
      if (3 : Int32) = 0 then none else
      (fX1_putOnTop (x9 - x9 / ((X7 2) 0 0) * ((X7 2) 0 0)) (x9 - x9 / (3 : Int32) * (3 : Int32)) (X7 3)).bind fun q10 =>
      lt ((va_up X7 3 q10)) fun X11 =>
      (fX1_passNight  (X11 3)).bind fun q12 =>
      lt ((va_up X11 3 q12)) fun X13 =>
      lt (v6 + (1 : Int32)) fun x14 =>
      fX4_drift_L51 i2 i3 k113 n_ x8 x14 X13
def fX4_drift (i1 : Int32) (i2 : Int32) (i3 : Int32) (X : M3) : Option (Int32 × M3) :=
  (fX4_within i2 (1 : Int32) (20 : Int32)).bind fun r1 =>
  if r1 = 0 then
    some ((-1 : Int32), X)
  else
    (fX4_within i3 (0 : Int32) (1 : Int32)).bind fun r2 =>
    if r2 = 0 then
      some ((-1 : Int32), X)
    else
      if 0 < ((X 2) 0 0) then
        (fX1_copyFrom  (X 3) (X 2)).bind fun q3 =>
        lt ((va_up X 3 q3)) fun X4 =>
        fX4_drift_L51 i2 i3
          (fun p16 =>
            if i3 = 0 then
              (fX1_dutyOfAll  (p16 3)).bind fun r18 =>
              some (r18, p16)
            else
              (fX1_holesInAll  (p16 3)).bind fun r17 =>
              some (r17, p16))
          400 i1 (0 : Int32) X4
      else
        some ((-2 : Int32), X)
def fX4_keep (i1 : Int32) (X : M3) : Option (Int32 × M3) :=
  (fX4_within i1 (0 : Int32) (1 : Int32)).bind fun r1 =>
  if r1 = 0 then
    some ((-1 : Int32), X)
  else
    lt (((((X 0) 6 0) >>> (i1 &&& 31)) &&& (1 : Int32))) fun x2 =>
    bnd i1 2 <|
    (fX1_copyFrom  (X (4 + i1.toNatClampNeg)) (X 2)).bind fun q4 =>
    lt ((va_up X (4 + i1.toNatClampNeg) q4)) fun X5 =>
    lt ((va_up X5 0 (va_up (X5 0) 6 (fun _ => (((X5 0) 6 0) ||| ((1 : Int32) <<< (i1 &&& 31))))))) fun X6 =>
    some (x2, X6)
def fX4_back (i1 : Int32) (X : M3) : Option (Int32 × M3) :=
  (fX4_within i1 (0 : Int32) (1 : Int32)).bind fun r1 =>
  if r1 = 0 then
    some ((-1 : Int32), X)
  else
    if ((((X 0) 6 0) >>> (i1 &&& 31)) &&& (1 : Int32)) = 0 then
      some ((-2 : Int32), X)
    else
      bnd i1 2 <|
      (fX1_copyFrom  (X 2) (X (4 + i1.toNatClampNeg))).bind fun q3 =>
      lt ((va_up X 2 q3)) fun X4 =>
      some (((X4 2) 14 0), X4)
def fX4_sheet (i1 : Int32) (i2 : Int32) (i3 : Int32) (X : M3) : Option (Int32 × M3) :=
  (fX4_isSheet i1).bind fun r1 =>
  if r1 = 0 then
    some ((-1 : Int32), X)
  else
    (fX4_isLane i2).bind fun r2 =>
    if r2 = 0 then
      some ((-1 : Int32), X)
    else
      if i3 ≤ (40 : Int32) then
        if 0 ≤ i3 then
          bnd i1 4 <|
          (fX2_makeNew i2 i3 (X (6 + i1.toNatClampNeg))).bind fun q4 =>
          lt ((va_up X (6 + i1.toNatClampNeg) q4)) fun X5 =>
          some ((1 : Int32), X5)
        else
          some ((-14 : Int32), X)
      else
        some ((-1 : Int32), X)
def fX4_lay (i1 : Int32) (i2 : Int32) (i3 : Int32) (X : M3) : Option (Int32 × M3) :=
  (fX4_isSheet i1).bind fun r1 =>
  if r1 = 0 then
    some ((-1 : Int32), X)
  else
    bnd i1 4 <|
    if ((X (6 + i1.toNatClampNeg)) 0 0) = 0 then
      some ((-11 : Int32), X)
    else
      (fX2_hasCell i2 (X (6 + i1.toNatClampNeg))).bind fun r3 =>
      if r3 = 0 then
        some ((-12 : Int32), X)
      else
        (fX2_setCell i2 i3 (X (6 + i1.toNatClampNeg))).bind fun q4 =>
        lt ((va_up X (6 + i1.toNatClampNeg) q4)) fun X5 =>
        some ((1 : Int32), X5)
def fX4_read_L89 (X : M3) (i1 : Int32) (i3 : Int32) (p12 : Int32) (p16 : Int32) (k150 : Unit → Option (Int32 × M3)) : Nat → Int32 → Option (Int32 × M3)
  | 0, _ => none
  | n_ + 1, v17 =>
    if p12 ≤ v17 then
      k150 ()
    else
      bnd (i3 + ((2 : Int32) * v17)) 40 <|
      (fX1_hasBolt ((X (6 + i1.toNatClampNeg)) 3 (i3 + ((2 : Int32) * v17)).toNatClampNeg) (X 2)).bind fun r18 =>
      if r18 = 0 then
        some (((-20 : Int32) - v17), X)
      else
        bnd ((i3 + ((2 : Int32) * v17)) + (1 : Int32)) 40 <|
        (fX4_isBale ((X (6 + i1.toNatClampNeg)) 3 ((i3 + ((2 : Int32) * v17)) + (1 : Int32)).toNatClampNeg)).bind fun r19 =>
        if r19 = 0 then
          some (((-20 : Int32) - v17), X)
        else
          lt (v17 + (1 : Int32)) fun x20 =>
          fX4_read_L89 X i1 i3 p12 p16 k150 n_ x20
def fX4_read_L153 (i1 : Int32) (i3 : Int32) (p12 : Int32) (p16 : Int32) (k199 : M3 → Option (Int32 × M3)) : Nat → Int32 → M3 → Option (Int32 × M3)
  | 0, _, _ => none
  | n_ + 1, v25, X26 =>
    if p12 ≤ v25 then
      k199 X26
    else
      bnd (i3 + ((2 : Int32) * v25)) 40 <|
      bnd ((i3 + ((2 : Int32) * v25)) + (1 : Int32)) 40 <|
      (fX1_putOnTop ((X26 (6 + i1.toNatClampNeg)) 3 (i3 + ((2 : Int32) * v25)).toNatClampNeg) ((X26 (6 + i1.toNatClampNeg)) 3 ((i3 + ((2 : Int32) * v25)) + (1 : Int32)).toNatClampNeg) (X26 2)).bind fun q27 =>
      lt ((va_up X26 2 q27)) fun X28 =>
      lt (v25 + (1 : Int32)) fun x29 =>
      fX4_read_L153 i1 i3 p12 p16 k199 n_ x29 X28
def fX4_read (i1 : Int32) (i2 : Int32) (i3 : Int32) (i4 : Int32) (X : M3) : Option (Int32 × M3) :=
  (fX4_isSheet i1).bind fun r1 =>
  if r1 = 0 then
    some ((-1 : Int32), X)
  else
    (fX4_isLane i2).bind fun r2 =>
    if r2 = 0 then
      some ((-1 : Int32), X)
    else
      (fX4_within i4 (0 : Int32) (20 : Int32)).bind fun r3 =>
      if r3 = 0 then
        some ((-1 : Int32), X)
      else
        bnd i1 4 <|
        jn (α := Option (Int32 × M3)) (β := Int32) (fun j5 =>
          if i4 = 0 then
            j5 (0 : Int32)
          else
            (fX2_faultAs i2 (X (6 + i1.toNatClampNeg))).bind fun r6 =>
            j5 r6) (fun p8 => 
          jn (α := Option (Int32 × M3)) (β := Int32) (fun j9 =>
            if p8 = 0 then
              (fX2_wholePairs i3 i4 (X (6 + i1.toNatClampNeg))).bind fun r10 =>
              j9 r10
            else
              j9 (0 : Int32)) (fun p12 => 
            jn (α := Option (Int32 × M3)) (β := Int32) (fun j13 =>
              if p8 = 0 then
                if i4 ≤ p12 then
                  j13 p8
                else
                  j13 (2 : Int32)
              else
                j13 p8) (fun p16 => 
              fX4_read_L89 X i1 i3 p12 p16
                (fun _ =>
                  fX4_read_L153 i1 i3 p12 p16
                    (fun p31 =>
                      lt ((va_up p31 0 (va_up (p31 0) 7 (fun _ => p16)))) fun X32 =>
                      some (p12, X32))
                    400 (0 : Int32) X)
                400 (0 : Int32))))
def fX4_torn  (X : M3) : Option (Int32) :=
  some ((X 0) 7 0)
def fX4_count (i1 : Int32) (X : M3) : Option (Int32) :=
  if i1 = 0 then
    (fX1_holesInAll  (X 2)).bind fun r2 =>
    some r2
  else
    if i1 = 1 then
      some ((X 2) 15 0)
    else
      if i1 = 2 then
        (fJ6_bitCount_0f7a4 ((X 0) 6 0)).bind fun r5 =>
        some r5
      else
        if i1 = 3 then
          some ((X 1) 1 0)
        else
          if i1 = 4 then
            bnd (0 : Int32) 4 <|
            if ((X (6 + (0 : Int32).toNatClampNeg)) 0 0) = 0 then
              some (-4 : Int32)
            else
              bnd (0 : Int32) 4 <|
              some ((X (6 + (0 : Int32).toNatClampNeg)) 2 0)
          else
            some (-1 : Int32)
def s0_X1 : M2 := fun k _ => if k = 13 then 1 else 0
def s0 : M2 := fun _ _ => 0
def s0_X4 : M3 := fun k => if k = 2 ∨ k = 3 ∨ k = 4 ∨ k = 5 ∨ k = 11 then s0_X1 else s0
def fX5_init_L85  (k104 : M2 → Option (M2)) : Nat → Int32 → M2 → Option (M2)
  | 0, _, _ => none
  | n_ + 1, v1, S2 =>
    if (4 : Int32) ≤ v1 then
      k104 S2
    else
      bnd v1 4 <|
      lt (va_up S2 20 (upd (S2 20) v1.toNatClampNeg (-4 : Int32))) fun S3 =>
      lt (v1 + (1 : Int32)) fun x4 =>
      fX5_init_L85 k104 n_ x4 S3
def fX5_init (S : M2) : Option M2 :=
  fX5_init_L85 
    (fun p6 =>
      (fX5_firstDraft  p6).bind fun q7 =>
      lt (q7) fun S8 =>
      (fX5_keepDraft  S8).bind fun q9 =>
      lt (q9) fun S10 =>
      some S10)
    400 (0 : Int32) S
def s1_X5 : M2 := (fX5_init s0).getD s0
def fL_law_L18 (Ln : Nat) (xs : Nat → Int32) (X : M3) (S : M2) (k1399 : (M3 × M2) → Option (Int32 × (M3 × M2))) : Nat → Int32 → M3 → M2 → Option (Int32 × (M3 × M2))
  | 0, _, _, _ => none
  | n_ + 1, v1, X2, S3 =>
    if ((nI Ln) - (5 : Int32)) < v1 then
      k1399 (X2, S3)
    else
      bnd v1 Ln <|
      jn (α := Option (Int32 × (M3 × M2))) (β := M3 × M2) (fun j4 =>
        if ((xs v1.toNatClampNeg) &&& (63 : Int32)) = 0 then
          bnd (v1 + (1 : Int32)) Ln <|
          (fX4_feed (xs (v1 + (1 : Int32)).toNatClampNeg) X2).bind fun q6 =>
          lt (q6.2) fun X7 =>
          bnd (v1 + (1 : Int32)) Ln <|
          (fX5_feed (xs (v1 + (1 : Int32)).toNatClampNeg) S3).bind fun q8 =>
          lt (q8.2) fun S9 =>
          if q6.1 = q8.1 then
            j4 (X7, S9)
          else
            some ((0 : Int32), (X7, S9))
        else
          if ((xs v1.toNatClampNeg) &&& (63 : Int32)) = 1 then
            bnd (v1 + (1 : Int32)) Ln <|
            (fX4_end (xs (v1 + (1 : Int32)).toNatClampNeg) X2).bind fun q12 =>
            lt (q12.2) fun X13 =>
            bnd (v1 + (1 : Int32)) Ln <|
            (fX5_end (xs (v1 + (1 : Int32)).toNatClampNeg) S3).bind fun q14 =>
            lt (q14.2) fun S15 =>
            if q12.1 = q14.1 then
              j4 (X13, S15)
            else
              some ((0 : Int32), (X13, S15))
          else
            if ((xs v1.toNatClampNeg) &&& (63 : Int32)) = 2 then
              (fX4_text  X2).bind fun q18 =>
              lt (q18.2) fun X19 =>
              (fX5_text  S3).bind fun q20 =>
              lt (q20.2) fun S21 =>
              if q18.1 = q20.1 then
                j4 (X19, S21)
              else
                some ((0 : Int32), (X19, S21))
            else
              if ((xs v1.toNatClampNeg) &&& (63 : Int32)) = 3 then
                (fX4_fault  X2).bind fun r24 =>
                (fX5_fault  S3).bind fun r25 =>
                if r24 = r25 then
                  j4 (X2, S3)
                else
                  some ((0 : Int32), (X2, S3))
              else
                if ((xs v1.toNatClampNeg) &&& (63 : Int32)) = 4 then
                  bnd (v1 + (1 : Int32)) Ln <|
                  (fX4_rule (xs (v1 + (1 : Int32)).toNatClampNeg) X2).bind fun r28 =>
                  bnd (v1 + (1 : Int32)) Ln <|
                  (fX5_rule (xs (v1 + (1 : Int32)).toNatClampNeg) S3).bind fun q29 =>
                  lt (q29.2) fun S30 =>
                  if r28 = q29.1 then
                    j4 (X2, S30)
                  else
                    some ((0 : Int32), (X2, S30))
                else
                  if ((xs v1.toNatClampNeg) &&& (63 : Int32)) = 5 then
                    bnd (v1 + (1 : Int32)) Ln <|
                    bnd (v1 + (2 : Int32)) Ln <|
                    (fX4_bolt (xs (v1 + (1 : Int32)).toNatClampNeg) (xs (v1 + (2 : Int32)).toNatClampNeg) X2).bind fun r33 =>
                    bnd (v1 + (1 : Int32)) Ln <|
                    bnd (v1 + (2 : Int32)) Ln <|
                    (fX5_bolt (xs (v1 + (1 : Int32)).toNatClampNeg) (xs (v1 + (2 : Int32)).toNatClampNeg) S3).bind fun r34 =>
                    if r33 = r34 then
                      j4 (X2, S3)
                    else
                      some ((0 : Int32), (X2, S3))
                  else
                    if ((xs v1.toNatClampNeg) &&& (63 : Int32)) = 6 then
                      bnd (v1 + (1 : Int32)) Ln <|
                      bnd (v1 + (2 : Int32)) Ln <|
                      (fX4_moth (xs (v1 + (1 : Int32)).toNatClampNeg) (xs (v1 + (2 : Int32)).toNatClampNeg) X2).bind fun r37 =>
                      bnd (v1 + (1 : Int32)) Ln <|
                      bnd (v1 + (2 : Int32)) Ln <|
                      (fX5_moth (xs (v1 + (1 : Int32)).toNatClampNeg) (xs (v1 + (2 : Int32)).toNatClampNeg) S3).bind fun q38 =>
                      lt (q38.2) fun S39 =>
                      if r37 = q38.1 then
                        j4 (X2, S39)
                      else
                        some ((0 : Int32), (X2, S39))
                    else
                      if ((xs v1.toNatClampNeg) &&& (63 : Int32)) = 7 then
                        bnd (v1 + (1 : Int32)) Ln <|
                        bnd (v1 + (2 : Int32)) Ln <|
                        (fX4_bale (xs (v1 + (1 : Int32)).toNatClampNeg) (xs (v1 + (2 : Int32)).toNatClampNeg) X2).bind fun r42 =>
                        bnd (v1 + (1 : Int32)) Ln <|
                        bnd (v1 + (2 : Int32)) Ln <|
                        (fX5_bale (xs (v1 + (1 : Int32)).toNatClampNeg) (xs (v1 + (2 : Int32)).toNatClampNeg) S3).bind fun q43 =>
                        lt (q43.2) fun S44 =>
                        if r42 = q43.1 then
                          j4 (X2, S44)
                        else
                          some ((0 : Int32), (X2, S44))
                      else
                        if ((xs v1.toNatClampNeg) &&& (63 : Int32)) = 8 then
                          bnd (v1 + (1 : Int32)) Ln <|
                          bnd (v1 + (2 : Int32)) Ln <|
                          (fX4_fold (xs (v1 + (1 : Int32)).toNatClampNeg) (xs (v1 + (2 : Int32)).toNatClampNeg) X2).bind fun q47 =>
                          lt (q47.2) fun X48 =>
                          bnd (v1 + (1 : Int32)) Ln <|
                          bnd (v1 + (2 : Int32)) Ln <|
                          (fX5_fold (xs (v1 + (1 : Int32)).toNatClampNeg) (xs (v1 + (2 : Int32)).toNatClampNeg) S3).bind fun q49 =>
                          lt (q49.2) fun S50 =>
                          if q47.1 = q49.1 then
                            j4 (X48, S50)
                          else
                            some ((0 : Int32), (X48, S50))
                        else
                          if ((xs v1.toNatClampNeg) &&& (63 : Int32)) = 9 then
                            bnd (v1 + (1 : Int32)) Ln <|
                            bnd (v1 + (2 : Int32)) Ln <|
                            (fX4_under (xs (v1 + (1 : Int32)).toNatClampNeg) (xs (v1 + (2 : Int32)).toNatClampNeg) X2).bind fun q53 =>
                            lt (q53.2) fun X54 =>
                            bnd (v1 + (1 : Int32)) Ln <|
                            bnd (v1 + (2 : Int32)) Ln <|
                            (fX5_under (xs (v1 + (1 : Int32)).toNatClampNeg) (xs (v1 + (2 : Int32)).toNatClampNeg) S3).bind fun q55 =>
                            lt (q55.2) fun S56 =>
                            if q53.1 = q55.1 then
                              j4 (X54, S56)
                            else
                              some ((0 : Int32), (X54, S56))
                          else
                            if ((xs v1.toNatClampNeg) &&& (63 : Int32)) = 10 then
                              bnd (v1 + (1 : Int32)) Ln <|
                              bnd (v1 + (2 : Int32)) Ln <|
                              (fX4_swap (xs (v1 + (1 : Int32)).toNatClampNeg) (xs (v1 + (2 : Int32)).toNatClampNeg) X2).bind fun q59 =>
                              lt (q59.2) fun X60 =>
                              bnd (v1 + (1 : Int32)) Ln <|
                              bnd (v1 + (2 : Int32)) Ln <|
                              (fX5_swap (xs (v1 + (1 : Int32)).toNatClampNeg) (xs (v1 + (2 : Int32)).toNatClampNeg) S3).bind fun q61 =>
                              lt (q61.2) fun S62 =>
                              if q59.1 = q61.1 then
                                j4 (X60, S62)
                              else
                                some ((0 : Int32), (X60, S62))
                            else
                              if ((xs v1.toNatClampNeg) &&& (63 : Int32)) = 11 then
                                bnd (v1 + (1 : Int32)) Ln <|
                                bnd (v1 + (2 : Int32)) Ln <|
                                jn (α := Option (Int32 × (M3 × M2))) (β := Int32) (fun j65 =>
                                  if (xs (v1 + (2 : Int32)).toNatClampNeg) = 0 then
                                    j65 (0 : Int32)
                                  else
                                    j65 (1 : Int32)) (fun p67 => 
                                  (fX4_camphor (xs (v1 + (1 : Int32)).toNatClampNeg) p67 X2).bind fun q68 =>
                                  lt (q68.2) fun X69 =>
                                  bnd (v1 + (1 : Int32)) Ln <|
                                  bnd (v1 + (2 : Int32)) Ln <|
                                  jn (α := Option (Int32 × (M3 × M2))) (β := Int32) (fun j70 =>
                                    if (xs (v1 + (2 : Int32)).toNatClampNeg) = 0 then
                                      j70 (0 : Int32)
                                    else
                                      j70 (1 : Int32)) (fun p72 => 
                                    (fX5_camphor (xs (v1 + (1 : Int32)).toNatClampNeg) p72 S3).bind fun q73 =>
                                    lt (q73.2) fun S74 =>
                                    if q68.1 = q73.1 then
                                      j4 (X69, S74)
                                    else
                                      some ((0 : Int32), (X69, S74))))
                              else
                                if ((xs v1.toNatClampNeg) &&& (63 : Int32)) = 12 then
                                  bnd (v1 + (1 : Int32)) Ln <|
                                  bnd (v1 + (2 : Int32)) Ln <|
                                  (fX4_patch (xs (v1 + (1 : Int32)).toNatClampNeg) (xs (v1 + (2 : Int32)).toNatClampNeg) X2).bind fun q77 =>
                                  lt (q77.2) fun X78 =>
                                  bnd (v1 + (1 : Int32)) Ln <|
                                  bnd (v1 + (2 : Int32)) Ln <|
                                  (fX5_patch (xs (v1 + (1 : Int32)).toNatClampNeg) (xs (v1 + (2 : Int32)).toNatClampNeg) S3).bind fun q79 =>
                                  lt (q79.2) fun S80 =>
                                  if q77.1 = q79.1 then
                                    j4 (X78, S80)
                                  else
                                    some ((0 : Int32), (X78, S80))
                                else
                                  if ((xs v1.toNatClampNeg) &&& (63 : Int32)) = 13 then
                                    bnd (v1 + (1 : Int32)) Ln <|
                                    (fX4_prick (xs (v1 + (1 : Int32)).toNatClampNeg) X2).bind fun q83 =>
                                    lt (q83.2) fun X84 =>
                                    bnd (v1 + (1 : Int32)) Ln <|
                                    (fX5_prick (xs (v1 + (1 : Int32)).toNatClampNeg) S3).bind fun q85 =>
                                    lt (q85.2) fun S86 =>
                                    if q83.1 = q85.1 then
                                      j4 (X84, S86)
                                    else
                                      some ((0 : Int32), (X84, S86))
                                  else
                                    if ((xs v1.toNatClampNeg) &&& (63 : Int32)) = 14 then
                                      bnd (v1 + (1 : Int32)) Ln <|
                                      bnd (v1 + (2 : Int32)) Ln <|
                                      bnd (v1 + (3 : Int32)) Ln <|
                                      (fX4_alter (xs (v1 + (1 : Int32)).toNatClampNeg) (xs (v1 + (2 : Int32)).toNatClampNeg) (xs (v1 + (3 : Int32)).toNatClampNeg) X2).bind fun q89 =>
                                      lt (q89.2) fun X90 =>
                                      bnd (v1 + (1 : Int32)) Ln <|
                                      bnd (v1 + (2 : Int32)) Ln <|
                                      bnd (v1 + (3 : Int32)) Ln <|
                                      (fX5_alter (xs (v1 + (1 : Int32)).toNatClampNeg) (xs (v1 + (2 : Int32)).toNatClampNeg) (xs (v1 + (3 : Int32)).toNatClampNeg) S3).bind fun q91 =>
                                      lt (q91.2) fun S92 =>
                                      if q89.1 = q91.1 then
                                        j4 (X90, S92)
                                      else
                                        some ((0 : Int32), (X90, S92))
                                    else
                                      if ((xs v1.toNatClampNeg) &&& (63 : Int32)) = 15 then
                                        bnd (v1 + (1 : Int32)) Ln <|
                                        bnd (v1 + (2 : Int32)) Ln <|
                                        (fX4_set (xs (v1 + (1 : Int32)).toNatClampNeg) (xs (v1 + (2 : Int32)).toNatClampNeg) X2).bind fun q95 =>
                                        lt (q95.2) fun X96 =>
                                        bnd (v1 + (1 : Int32)) Ln <|
                                        bnd (v1 + (2 : Int32)) Ln <|
                                        (fX5_set (xs (v1 + (1 : Int32)).toNatClampNeg) (xs (v1 + (2 : Int32)).toNatClampNeg) S3).bind fun q97 =>
                                        lt (q97.2) fun S98 =>
                                        if q95.1 = q97.1 then
                                          j4 (X96, S98)
                                        else
                                          some ((0 : Int32), (X96, S98))
                                      else
                                        if ((xs v1.toNatClampNeg) &&& (63 : Int32)) = 16 then
                                          bnd (v1 + (1 : Int32)) Ln <|
                                          (fX4_go (xs (v1 + (1 : Int32)).toNatClampNeg) X2).bind fun q101 =>
                                          lt (q101.2) fun X102 =>
                                          bnd (v1 + (1 : Int32)) Ln <|
                                          (fX5_go (xs (v1 + (1 : Int32)).toNatClampNeg) S3).bind fun q103 =>
                                          lt (q103.2) fun S104 =>
                                          if q101.1 = q103.1 then
                                            j4 (X102, S104)
                                          else
                                            some ((0 : Int32), (X102, S104))
                                        else
                                          if ((xs v1.toNatClampNeg) &&& (63 : Int32)) = 17 then
                                            bnd (v1 + (1 : Int32)) Ln <|
                                            bnd (v1 + (2 : Int32)) Ln <|
                                            (fX4_ahead (xs (v1 + (1 : Int32)).toNatClampNeg) (xs (v1 + (2 : Int32)).toNatClampNeg) X2).bind fun q107 =>
                                            lt (q107.2) fun X108 =>
                                            bnd (v1 + (1 : Int32)) Ln <|
                                            bnd (v1 + (2 : Int32)) Ln <|
                                            (fX5_ahead (xs (v1 + (1 : Int32)).toNatClampNeg) (xs (v1 + (2 : Int32)).toNatClampNeg) S3).bind fun q109 =>
                                            lt (q109.2) fun S110 =>
                                            if q107.1 = q109.1 then
                                              j4 (X108, S110)
                                            else
                                              some ((0 : Int32), (X108, S110))
                                          else
                                            if ((xs v1.toNatClampNeg) &&& (63 : Int32)) = 18 then
                                              bnd (v1 + (1 : Int32)) Ln <|
                                              (fX4_when (xs (v1 + (1 : Int32)).toNatClampNeg) X2).bind fun q113 =>
                                              lt (q113.2) fun X114 =>
                                              bnd (v1 + (1 : Int32)) Ln <|
                                              (fX5_when (xs (v1 + (1 : Int32)).toNatClampNeg) S3).bind fun q115 =>
                                              lt (q115.2) fun S116 =>
                                              if q113.1 = q115.1 then
                                                j4 (X114, S116)
                                              else
                                                some ((0 : Int32), (X114, S116))
                                            else
                                              if ((xs v1.toNatClampNeg) &&& (63 : Int32)) = 19 then
                                                bnd (v1 + (1 : Int32)) Ln <|
                                                (fX4_eats (xs (v1 + (1 : Int32)).toNatClampNeg) X2).bind fun q119 =>
                                                lt (q119.2) fun X120 =>
                                                bnd (v1 + (1 : Int32)) Ln <|
                                                (fX5_eats (xs (v1 + (1 : Int32)).toNatClampNeg) S3).bind fun q121 =>
                                                lt (q121.2) fun S122 =>
                                                if q119.1 = q121.1 then
                                                  j4 (X120, S122)
                                                else
                                                  some ((0 : Int32), (X120, S122))
                                              else
                                                if ((xs v1.toNatClampNeg) &&& (63 : Int32)) = 20 then
                                                  bnd (v1 + (1 : Int32)) Ln <|
                                                  (fX4_duty (xs (v1 + (1 : Int32)).toNatClampNeg) X2).bind fun q125 =>
                                                  lt (q125.2) fun X126 =>
                                                  bnd (v1 + (1 : Int32)) Ln <|
                                                  (fX5_duty (xs (v1 + (1 : Int32)).toNatClampNeg) S3).bind fun q127 =>
                                                  lt (q127.2) fun S128 =>
                                                  if q125.1 = q127.1 then
                                                    j4 (X126, S128)
                                                  else
                                                    some ((0 : Int32), (X126, S128))
                                                else
                                                  if ((xs v1.toNatClampNeg) &&& (63 : Int32)) = 21 then
                                                    bnd (v1 + (1 : Int32)) Ln <|
                                                    (fX4_best (xs (v1 + (1 : Int32)).toNatClampNeg) X2).bind fun q131 =>
                                                    lt (q131.2) fun X132 =>
                                                    bnd (v1 + (1 : Int32)) Ln <|
                                                    (fX5_best (xs (v1 + (1 : Int32)).toNatClampNeg) S3).bind fun q133 =>
                                                    lt (q133.2) fun S134 =>
                                                    if q131.1 = q133.1 then
                                                      j4 (X132, S134)
                                                    else
                                                      some ((0 : Int32), (X132, S134))
                                                  else
                                                    if ((xs v1.toNatClampNeg) &&& (63 : Int32)) = 22 then
                                                      bnd (v1 + (1 : Int32)) Ln <|
                                                      (fX4_guard (xs (v1 + (1 : Int32)).toNatClampNeg) X2).bind fun q137 =>
                                                      lt (q137.2) fun X138 =>
                                                      bnd (v1 + (1 : Int32)) Ln <|
                                                      (fX5_guard (xs (v1 + (1 : Int32)).toNatClampNeg) S3).bind fun q139 =>
                                                      lt (q139.2) fun S140 =>
                                                      if q137.1 = q139.1 then
                                                        j4 (X138, S140)
                                                      else
                                                        some ((0 : Int32), (X138, S140))
                                                    else
                                                      if ((xs v1.toNatClampNeg) &&& (63 : Int32)) = 23 then
                                                        bnd (v1 + (1 : Int32)) Ln <|
                                                        bnd (v1 + (2 : Int32)) Ln <|
                                                        (fX4_send (xs (v1 + (1 : Int32)).toNatClampNeg) (xs (v1 + (2 : Int32)).toNatClampNeg) X2).bind fun q143 =>
                                                        lt (q143.2) fun X144 =>
                                                        bnd (v1 + (1 : Int32)) Ln <|
                                                        bnd (v1 + (2 : Int32)) Ln <|
                                                        (fX5_send (xs (v1 + (1 : Int32)).toNatClampNeg) (xs (v1 + (2 : Int32)).toNatClampNeg) S3).bind fun q145 =>
                                                        lt (q145.2) fun S146 =>
                                                        if q143.1 = q145.1 then
                                                          j4 (X144, S146)
                                                        else
                                                          some ((0 : Int32), (X144, S146))
                                                      else
                                                        if ((xs v1.toNatClampNeg) &&& (63 : Int32)) = 24 then
                                                          bnd (v1 + (1 : Int32)) Ln <|
                                                          (fX4_raise (xs (v1 + (1 : Int32)).toNatClampNeg) X2).bind fun q149 =>
                                                          lt (q149.2) fun X150 =>
                                                          bnd (v1 + (1 : Int32)) Ln <|
                                                          (fX5_raise (xs (v1 + (1 : Int32)).toNatClampNeg) S3).bind fun q151 =>
                                                          lt (q151.2) fun S152 =>
                                                          if q149.1 = q151.1 then
                                                            j4 (X150, S152)
                                                          else
                                                            some ((0 : Int32), (X150, S152))
                                                        else
                                                          if ((xs v1.toNatClampNeg) &&& (63 : Int32)) = 25 then
                                                            bnd (v1 + (1 : Int32)) Ln <|
                                                            bnd (v1 + (2 : Int32)) Ln <|
                                                            (fX4_mean (xs (v1 + (1 : Int32)).toNatClampNeg) (xs (v1 + (2 : Int32)).toNatClampNeg) X2).bind fun q155 =>
                                                            lt (q155.2) fun X156 =>
                                                            bnd (v1 + (1 : Int32)) Ln <|
                                                            bnd (v1 + (2 : Int32)) Ln <|
                                                            (fX5_mean (xs (v1 + (1 : Int32)).toNatClampNeg) (xs (v1 + (2 : Int32)).toNatClampNeg) S3).bind fun q157 =>
                                                            lt (q157.2) fun S158 =>
                                                            if (lg_cmp q155.1 q157.1) = 0 then
                                                              j4 (X156, S158)
                                                            else
                                                              some ((0 : Int32), (X156, S158))
                                                          else
                                                            if ((xs v1.toNatClampNeg) &&& (63 : Int32)) = 26 then
                                                              bnd (v1 + (1 : Int32)) Ln <|
                                                              bnd (v1 + (2 : Int32)) Ln <|
                                                              bnd (v1 + (3 : Int32)) Ln <|
                                                              (fX4_luck (xs (v1 + (1 : Int32)).toNatClampNeg) (xs (v1 + (2 : Int32)).toNatClampNeg) (xs (v1 + (3 : Int32)).toNatClampNeg) X2).bind fun q161 =>
                                                              lt (q161.2) fun X162 =>
                                                              bnd (v1 + (1 : Int32)) Ln <|
                                                              bnd (v1 + (2 : Int32)) Ln <|
                                                              bnd (v1 + (3 : Int32)) Ln <|
                                                              (fX5_luck (xs (v1 + (1 : Int32)).toNatClampNeg) (xs (v1 + (2 : Int32)).toNatClampNeg) (xs (v1 + (3 : Int32)).toNatClampNeg) S3).bind fun q163 =>
                                                              lt (q163.2) fun S164 =>
                                                              if (lg_cmp q161.1 q163.1) = 0 then
                                                                j4 (X162, S164)
                                                              else
                                                                some ((0 : Int32), (X162, S164))
                                                            else
                                                              if ((xs v1.toNatClampNeg) &&& (63 : Int32)) = 27 then
                                                                bnd (v1 + (1 : Int32)) Ln <|
                                                                bnd (v1 + (2 : Int32)) Ln <|
                                                                (fX4_see (xs (v1 + (1 : Int32)).toNatClampNeg) (xs (v1 + (2 : Int32)).toNatClampNeg) X2).bind fun q167 =>
                                                                lt (q167.2) fun X168 =>
                                                                bnd (v1 + (1 : Int32)) Ln <|
                                                                bnd (v1 + (2 : Int32)) Ln <|
                                                                (fX5_see (xs (v1 + (1 : Int32)).toNatClampNeg) (xs (v1 + (2 : Int32)).toNatClampNeg) S3).bind fun q169 =>
                                                                lt (q169.2) fun S170 =>
                                                                if q167.1 = q169.1 then
                                                                  j4 (X168, S170)
                                                                else
                                                                  some ((0 : Int32), (X168, S170))
                                                              else
                                                                if ((xs v1.toNatClampNeg) &&& (63 : Int32)) = 28 then
                                                                  bnd (v1 + (1 : Int32)) Ln <|
                                                                  (fX4_forget (xs (v1 + (1 : Int32)).toNatClampNeg) X2).bind fun q173 =>
                                                                  lt (q173.2) fun X174 =>
                                                                  bnd (v1 + (1 : Int32)) Ln <|
                                                                  (fX5_forget (xs (v1 + (1 : Int32)).toNatClampNeg) S3).bind fun q175 =>
                                                                  lt (q175.2) fun S176 =>
                                                                  if q173.1 = q175.1 then
                                                                    j4 (X174, S176)
                                                                  else
                                                                    some ((0 : Int32), (X174, S176))
                                                                else
                                                                  if ((xs v1.toNatClampNeg) &&& (63 : Int32)) = 29 then
                                                                    bnd (v1 + (1 : Int32)) Ln <|
                                                                    (fX4_tastes (xs (v1 + (1 : Int32)).toNatClampNeg) X2).bind fun q179 =>
                                                                    lt (q179.2) fun X180 =>
                                                                    bnd (v1 + (1 : Int32)) Ln <|
                                                                    (fX5_tastes (xs (v1 + (1 : Int32)).toNatClampNeg) S3).bind fun q181 =>
                                                                    lt (q181.2) fun S182 =>
                                                                    if q179.1 = q181.1 then
                                                                      j4 (X180, S182)
                                                                    else
                                                                      some ((0 : Int32), (X180, S182))
                                                                  else
                                                                    if ((xs v1.toNatClampNeg) &&& (63 : Int32)) = 30 then
                                                                      (fX4_bought  X2).bind fun q185 =>
                                                                      lt (q185.2) fun X186 =>
                                                                      (fX5_bought  S3).bind fun q187 =>
                                                                      lt (q187.2) fun S188 =>
                                                                      if q185.1 = q187.1 then
                                                                        j4 (X186, S188)
                                                                      else
                                                                        some ((0 : Int32), (X186, S188))
                                                                    else
                                                                      if ((xs v1.toNatClampNeg) &&& (63 : Int32)) = 31 then
                                                                        bnd (v1 + (1 : Int32)) Ln <|
                                                                        (fX4_pricked (xs (v1 + (1 : Int32)).toNatClampNeg) X2).bind fun q191 =>
                                                                        lt (q191.2) fun X192 =>
                                                                        bnd (v1 + (1 : Int32)) Ln <|
                                                                        (fX5_pricked (xs (v1 + (1 : Int32)).toNatClampNeg) S3).bind fun q193 =>
                                                                        lt (q193.2) fun S194 =>
                                                                        if q191.1 = q193.1 then
                                                                          j4 (X192, S194)
                                                                        else
                                                                          some ((0 : Int32), (X192, S194))
                                                                      else
                                                                        if ((xs v1.toNatClampNeg) &&& (63 : Int32)) = 32 then
                                                                          bnd (v1 + (1 : Int32)) Ln <|
                                                                          (fX4_lain (xs (v1 + (1 : Int32)).toNatClampNeg) X2).bind fun q197 =>
                                                                          lt (q197.2) fun X198 =>
                                                                          bnd (v1 + (1 : Int32)) Ln <|
                                                                          (fX5_lain (xs (v1 + (1 : Int32)).toNatClampNeg) S3).bind fun q199 =>
                                                                          lt (q199.2) fun S200 =>
                                                                          if q197.1 = q199.1 then
                                                                            j4 (X198, S200)
                                                                          else
                                                                            some ((0 : Int32), (X198, S200))
                                                                        else
                                                                          if ((xs v1.toNatClampNeg) &&& (63 : Int32)) = 33 then
                                                                            bnd (v1 + (1 : Int32)) Ln <|
                                                                            bnd (v1 + (2 : Int32)) Ln <|
                                                                            bnd (v1 + (3 : Int32)) Ln <|
                                                                            (fX4_drift (xs (v1 + (1 : Int32)).toNatClampNeg) (xs (v1 + (2 : Int32)).toNatClampNeg) (xs (v1 + (3 : Int32)).toNatClampNeg) X2).bind fun q203 =>
                                                                            lt (q203.2) fun X204 =>
                                                                            bnd (v1 + (1 : Int32)) Ln <|
                                                                            bnd (v1 + (2 : Int32)) Ln <|
                                                                            bnd (v1 + (3 : Int32)) Ln <|
                                                                            (fX5_drift (xs (v1 + (1 : Int32)).toNatClampNeg) (xs (v1 + (2 : Int32)).toNatClampNeg) (xs (v1 + (3 : Int32)).toNatClampNeg) S3).bind fun q205 =>
                                                                            lt (q205.2) fun S206 =>
                                                                            if q203.1 = q205.1 then
                                                                              j4 (X204, S206)
                                                                            else
                                                                              some ((0 : Int32), (X204, S206))
                                                                          else
                                                                            if ((xs v1.toNatClampNeg) &&& (63 : Int32)) = 34 then
                                                                              bnd (v1 + (1 : Int32)) Ln <|
                                                                              (fX4_keep (xs (v1 + (1 : Int32)).toNatClampNeg) X2).bind fun q209 =>
                                                                              lt (q209.2) fun X210 =>
                                                                              bnd (v1 + (1 : Int32)) Ln <|
                                                                              (fX5_keep (xs (v1 + (1 : Int32)).toNatClampNeg) S3).bind fun q211 =>
                                                                              lt (q211.2) fun S212 =>
                                                                              if q209.1 = q211.1 then
                                                                                j4 (X210, S212)
                                                                              else
                                                                                some ((0 : Int32), (X210, S212))
                                                                            else
                                                                              if ((xs v1.toNatClampNeg) &&& (63 : Int32)) = 35 then
                                                                                bnd (v1 + (1 : Int32)) Ln <|
                                                                                (fX4_back (xs (v1 + (1 : Int32)).toNatClampNeg) X2).bind fun q215 =>
                                                                                lt (q215.2) fun X216 =>
                                                                                bnd (v1 + (1 : Int32)) Ln <|
                                                                                (fX5_back (xs (v1 + (1 : Int32)).toNatClampNeg) S3).bind fun q217 =>
                                                                                lt (q217.2) fun S218 =>
                                                                                if q215.1 = q217.1 then
                                                                                  j4 (X216, S218)
                                                                                else
                                                                                  some ((0 : Int32), (X216, S218))
                                                                              else
                                                                                if ((xs v1.toNatClampNeg) &&& (63 : Int32)) = 36 then
                                                                                  bnd (v1 + (1 : Int32)) Ln <|
                                                                                  bnd (v1 + (2 : Int32)) Ln <|
                                                                                  bnd (v1 + (3 : Int32)) Ln <|
                                                                                  (fX4_sheet (xs (v1 + (1 : Int32)).toNatClampNeg) (xs (v1 + (2 : Int32)).toNatClampNeg) (xs (v1 + (3 : Int32)).toNatClampNeg) X2).bind fun q221 =>
                                                                                  lt (q221.2) fun X222 =>
                                                                                  bnd (v1 + (1 : Int32)) Ln <|
                                                                                  bnd (v1 + (2 : Int32)) Ln <|
                                                                                  bnd (v1 + (3 : Int32)) Ln <|
                                                                                  (fX5_sheet (xs (v1 + (1 : Int32)).toNatClampNeg) (xs (v1 + (2 : Int32)).toNatClampNeg) (xs (v1 + (3 : Int32)).toNatClampNeg) S3).bind fun q223 =>
                                                                                  lt (q223.2) fun S224 =>
                                                                                  if q221.1 = q223.1 then
                                                                                    j4 (X222, S224)
                                                                                  else
                                                                                    some ((0 : Int32), (X222, S224))
                                                                                else
                                                                                  if ((xs v1.toNatClampNeg) &&& (63 : Int32)) = 37 then
                                                                                    bnd (v1 + (1 : Int32)) Ln <|
                                                                                    bnd (v1 + (2 : Int32)) Ln <|
                                                                                    bnd (v1 + (3 : Int32)) Ln <|
                                                                                    (fX4_lay (xs (v1 + (1 : Int32)).toNatClampNeg) (xs (v1 + (2 : Int32)).toNatClampNeg) (xs (v1 + (3 : Int32)).toNatClampNeg) X2).bind fun q227 =>
                                                                                    lt (q227.2) fun X228 =>
                                                                                    bnd (v1 + (1 : Int32)) Ln <|
                                                                                    bnd (v1 + (2 : Int32)) Ln <|
                                                                                    bnd (v1 + (3 : Int32)) Ln <|
                                                                                    (fX5_lay (xs (v1 + (1 : Int32)).toNatClampNeg) (xs (v1 + (2 : Int32)).toNatClampNeg) (xs (v1 + (3 : Int32)).toNatClampNeg) S3).bind fun q229 =>
                                                                                    lt (q229.2) fun S230 =>
                                                                                    if q227.1 = q229.1 then
                                                                                      j4 (X228, S230)
                                                                                    else
                                                                                      some ((0 : Int32), (X228, S230))
                                                                                  else
                                                                                    if ((xs v1.toNatClampNeg) &&& (63 : Int32)) = 38 then
                                                                                      bnd (v1 + (1 : Int32)) Ln <|
                                                                                      bnd (v1 + (2 : Int32)) Ln <|
                                                                                      bnd (v1 + (3 : Int32)) Ln <|
                                                                                      bnd (v1 + (4 : Int32)) Ln <|
                                                                                      (fX4_read (xs (v1 + (1 : Int32)).toNatClampNeg) (xs (v1 + (2 : Int32)).toNatClampNeg) (xs (v1 + (3 : Int32)).toNatClampNeg) (xs (v1 + (4 : Int32)).toNatClampNeg) X2).bind fun q233 =>
                                                                                      lt (q233.2) fun X234 =>
                                                                                      bnd (v1 + (1 : Int32)) Ln <|
                                                                                      bnd (v1 + (2 : Int32)) Ln <|
                                                                                      bnd (v1 + (3 : Int32)) Ln <|
                                                                                      bnd (v1 + (4 : Int32)) Ln <|
                                                                                      (fX5_read (xs (v1 + (1 : Int32)).toNatClampNeg) (xs (v1 + (2 : Int32)).toNatClampNeg) (xs (v1 + (3 : Int32)).toNatClampNeg) (xs (v1 + (4 : Int32)).toNatClampNeg) S3).bind fun q235 =>
                                                                                      lt (q235.2) fun S236 =>
                                                                                      if q233.1 = q235.1 then
                                                                                        j4 (X234, S236)
                                                                                      else
                                                                                        some ((0 : Int32), (X234, S236))
                                                                                    else
                                                                                      if ((xs v1.toNatClampNeg) &&& (63 : Int32)) = 39 then
                                                                                        (fX4_torn  X2).bind fun r239 =>
                                                                                        (fX5_torn  S3).bind fun r240 =>
                                                                                        if r239 = r240 then
                                                                                          j4 (X2, S3)
                                                                                        else
                                                                                          some ((0 : Int32), (X2, S3))
                                                                                      else
                                                                                        if ((xs v1.toNatClampNeg) &&& (63 : Int32)) = 40 then
                                                                                          bnd (v1 + (1 : Int32)) Ln <|
                                                                                          (fX4_count (xs (v1 + (1 : Int32)).toNatClampNeg) X2).bind fun r243 =>
                                                                                          bnd (v1 + (1 : Int32)) Ln <|
                                                                                          (fX5_count (xs (v1 + (1 : Int32)).toNatClampNeg) S3).bind fun q244 =>
                                                                                          lt (q244.2) fun S245 =>
                                                                                          if r243 = q244.1 then
                                                                                            j4 (X2, S245)
                                                                                          else
                                                                                            some ((0 : Int32), (X2, S245))
                                                                                        else
                                                                                          j4 (X2, S3)) (fun p247 => 
        lt (v1 + (5 : Int32)) fun x248 =>
        fL_law_L18 Ln xs X S k1399 n_ x248 p247.1 p247.2)
def fL_law (Ln : Nat) (xs : Nat → Int32) (X : M3) (S : M2) : Option (Int32 × (M3 × M2)) :=
  fL_law_L18 Ln xs X S
    (fun p250 =>
      some ((1 : Int32), (p250.1, p250.2)))
    400 (0 : Int32) X S
end
section
/-! out of kit/laws (given for pasting) -/
def bt (x : Int32) (i : Nat) : Bool := x.toBitVec.getLsbD i
theorem b_ext {x y : Int32} (h : ∀ i, i < 32 → bt x i = bt y i) : x = y := Int32.toBitVec_inj.mp (BitVec.eq_of_getLsbD_eq (fun i hi => h i hi))
theorem b_and (x y : Int32) (i : Nat) : bt (x &&& y) i = (bt x i && bt y i) := by unfold bt; rw [Int32.toBitVec_and, BitVec.getLsbD_and]
theorem s_l : ∀ n, n < 32 → ((nI n &&& 31).toBitVec.smod 32).toNat = n := by decide +kernel
theorem s_u : ∀ n, n < 32 → (((nI n).toUInt32 &&& Int32.toUInt32 31).toBitVec % 32).toNat = n := by decide +kernel
theorem b_ushr (n : Nat) (hn : n < 32) (x : Int32) (i : Nat) : bt ((x.toUInt32 >>> ((nI n).toUInt32 &&& Int32.toUInt32 31)).toInt32) i = bt x (n + i) := by
  show (x.toUInt32 >>> ((nI n).toUInt32 &&& Int32.toUInt32 31)).toBitVec.getLsbD i = x.toUInt32.toBitVec.getLsbD (n + i)
  rw [UInt32.toBitVec_shiftRight]
  show (x.toUInt32.toBitVec >>> (((nI n).toUInt32 &&& Int32.toUInt32 31).toBitVec % 32).toNat).getLsbD i = _
  rw [s_u n hn, BitVec.getLsbD_ushiftRight]
theorem b_sshr (n : Nat) (hn : n < 32) (x : Int32) {i : Nat} (hi : i < 32) : bt (x >>> (nI n &&& 31)) i = if n + i < 32 then bt x (n + i) else bt x 31 := by
  unfold bt
  rw [Int32.toBitVec_shiftRight]
  show (x.toBitVec.sshiftRight ((nI n &&& 31).toBitVec.smod 32).toNat).getLsbD i = _
  rw [s_l n hn, BitVec.getLsbD_sshiftRight, BitVec.msb_eq_getLsbD_last]
  simp [hi]
end
section
/-! L2: the pure functions of the class against those of the model. Numbers: every value is nI of a Nat. -/
theorem q_lit (n : Nat) : (OfNat.ofNat n : Int32) = nI (OfNat.ofNat n) := rfl
theorem q_bnd {α : Type} {i n : Nat} {o : Option α} (h : i < n ∧ n < 2 ^ 31) : bnd (nI i) n o = o := by
  unfold bnd
  rw [if_neg (nI_in h.1 h.2)]
theorem q_cl {n : Nat} (h : n < 2 ^ 31) : (nI n).toNatClampNeg = n := nI_clamp h
theorem q_le {a b : Nat} (h : a < 2 ^ 31 ∧ b < 2 ^ 31) : (nI a ≤ nI b) = (a ≤ b) := propext (nI_leI h.1 h.2)
theorem q_lt {a b : Nat} (h : a < 2 ^ 31 ∧ b < 2 ^ 31) : (nI a < nI b) = (a < b) := propext (nI_ltI h.1 h.2)
theorem q_eq {a b : Nat} (h : a < 2 ^ 31 ∧ b < 2 ^ 31) : (nI a = nI b) = (a = b) := propext (nI_eq h.1 h.2)
theorem q_up {α : Type} (f : Nat → α) (k : Nat) (v : α) (j : Nat) : va_up f k v j = if j = k then v else f j := rfl
theorem q_ud (f : Nat → Int32) (k : Nat) (v : Int32) (j : Nat) : upd f k v j = if j = k then v else f j := rfl
theorem q_pos {α : Type} {c : Prop} {d : Decidable c} {a b : α} (h : c) : @ite α c d a b = a := if_pos h
theorem q_neg {α : Type} {c : Prop} {d : Decidable c} {a b : α} (h : ¬ c) : @ite α c d a b = b := if_neg h
theorem q_T {α : Type} {d : Decidable True} {a b : α} : @ite α True d a b = a := if_pos trivial
theorem q_F {α : Type} {d : Decidable False} {a b : α} : @ite α False d a b = b := if_neg id
theorem q_max0 {a : Nat} {d : Decidable (0 < a)} : (@ite Int32 (0 < a) d (nI a) (nI 0)) = nI a := by
  split
  · rfl
  · rw [show a = 0 by omega]
theorem q_sub {a b : Nat} (h : b ≤ a) : nI a - nI b = nI (a - b) := pk_sub h
theorem q_div {a d : Nat} (h : a < 2 ^ 31 ∧ 0 < d ∧ d < 2 ^ 31) : nI a / nI d = nI (a / d) := pk_div h.1 h.2.1 h.2.2
theorem q_min {a b : Nat} {d : Decidable (a < b)} : (@ite Int32 (a < b) d (nI a) (nI b)) = nI (min a b) := by
  split
  · rw [Nat.min_eq_left (by omega)]
  · rw [Nat.min_eq_right (by omega)]
theorem q_min2 {a b : Nat} {d : Decidable (a ≤ b)} : (@ite Int32 (a ≤ b) d (nI a) (nI b)) = nI (min a b) := by
  split
  · rw [Nat.min_eq_left (by omega)]
  · rw [Nat.min_eq_right (by omega)]
theorem q_some {α β : Type} (a : α) (k : α → Option β) : (some a).bind k = k a := rfl
theorem q_s31 : ∀ n, n < 32 → ((nI n &&& 31).toBitVec.smod 32).toNat = n := by decide +kernel
theorem q_shr {c b : Nat} (h : c < 2 ^ 31 ∧ b < 32) : nI c >>> (nI b &&& nI 31) = nI (c / 2 ^ b) := pk_shrN h.1 _ b (q_s31 b h.2)
theorem q_and1 (n : Nat) (h : n < 2 ^ 32) : nI n &&& nI 1 = nI (n % 2) := pk_andN h 1 (by decide)
theorem q_bit {c b : Nat} (h : c < 2 ^ 31 ∧ b < 32) : (nI c >>> (nI b &&& nI 31)) &&& nI 1 = nI (c.testBit b).toNat := by
  rw [q_shr h, q_and1 _ (Nat.lt_of_le_of_lt (Nat.div_le_self _ _) (by omega)), Nat.toNat_testBit]
theorem q_shl {b : Nat} (h : b < 31) : nI 1 <<< (nI b &&& nI 31) = nI (2 ^ b) := by
  have h2 : 2 ^ b < 2 ^ 31 := Nat.pow_lt_pow_right (by decide) h
  have := pk_shlN (n := 1) (nI b &&& 31) b (q_s31 b (by omega)) (by omega)
  rw [Nat.one_mul] at this
  exact this
theorem q_or (a b : Nat) : nI a ||| nI b = nI (a ||| b) := by
  apply Int32.toBitVec_inj.1
  show BitVec.ofNat 32 a ||| BitVec.ofNat 32 b = BitVec.ofNat 32 (a ||| b)
  apply BitVec.eq_of_getLsbD_eq
  intro i hi
  simp [hi]
theorem q_and (a b : Nat) : nI a &&& nI b = nI (a &&& b) := by
  apply Int32.toBitVec_inj.1
  show BitVec.ofNat 32 a &&& BitVec.ofNat 32 b = BitVec.ofNat 32 (a &&& b)
  apply BitVec.eq_of_getLsbD_eq
  intro i hi
  simp [hi]
theorem q_b0 (b : Bool) : (nI b.toNat = nI 0) = (b = false) := by cases b <;> simp <;> decide
theorem q_b1 (b : Bool) : (nI b.toNat = nI 1) = (b = true) := by cases b <;> simp <;> decide
theorem q_bz (b : Bool) : (0 < b.toNat) = (b = true) := by cases b <;> simp
theorem q_zb {α : Type} (b : Bool) (o : Option α) : zb (nI b.toNat) o = o := by cases b <;> rfl
theorem q_flag (b : Bool) : fX5_flag (nI b.toNat) = some (nI b.toNat) := by cases b <;> rfl
theorem q_flg1 : fX5_flag (nI 1) = some (nI 1) := rfl
theorem q_flg0 : fX5_flag (nI 0) = some (nI 0) := rfl
theorem q_fl (b : Bool) : (if b = true then some (nI 1) else some (nI 0)) = some (nI b.toNat) := by cases b <;> rfl
theorem q_tf {α : Type} (b : Bool) (x y : α) : (if b = false then x else y) = if b = true then y else x := by cases b <;> rfl
/-! arguments -/
theorem q_win {j a b : Nat} (h : a ≤ j ∧ j ≤ b ∧ b < 2 ^ 31) : fX4_within (nI j) (nI a) (nI b) = some (nI 1) := by
  simp (disch := omega) only [fX4_within, lt, jn, q_lit, q_bnd, q_cl, q_le, q_lt, q_eq, pk_mul, nI_add, q_sub, q_div, q_pos, q_neg, q_T, q_F, q_max0, q_flg1, q_flg0, q_min, q_min2, q_bit, q_some]
theorem q_within (x : Int32) {a b : Nat} (hb : a ≤ b + 1 ∧ b < 2 ^ 30) : (∃ j, a ≤ j ∧ j ≤ b ∧ x = nI j) ∨ ((∀ j, a ≤ j → j ≤ b → x ≠ nI j) ∧ fX4_within x (nI a) (nI b) = some (nI 0)) := by
  rcases pk_ix x (n := b + 1) (by omega) with h | h | ⟨j, hj, rfl⟩
  · refine Or.inr ⟨fun j h1 h2 h3 => ?_, ?_⟩
    · rw [h3] at h
      exact nI_pos (by omega) h
    · have h2 : x < nI a := by
        have h0 : (nI 0) ≤ nI a := nI_le (by omega) (by omega)
        rw [nI_0] at h0
        exact Int32.lt_of_lt_of_le h h0
      unfold fX4_within
      rw [if_pos h2]
      rfl
  · refine Or.inr ⟨fun j h1 h2 h3 => ?_, ?_⟩
    · rw [h3] at h
      rw [nI_leI (by omega) (by omega)] at h
      omega
    · have h1 : ¬ x < nI a := fun h4 => by
        have := Int32.lt_of_le_of_lt h h4
        rw [nI_ltI (by omega) (by omega)] at this
        omega
      have h2 : nI b < x := Int32.lt_of_lt_of_le (nI_lt (Nat.lt_succ_self b) (by omega)) h
      unfold fX4_within
      rw [if_neg h1, if_pos h2]
      rfl
  · by_cases h : a ≤ j
    · exact Or.inl ⟨j, h, by omega, rfl⟩
    · refine Or.inr ⟨fun i h1 h2 h3 => ?_, ?_⟩
      · rw [nI_eq (by omega) (by omega)] at h3
        omega
      · simp (disch := omega) only [fX4_within, lt, jn, q_lit, q_bnd, q_cl, q_le, q_lt, q_eq, pk_mul, nI_add, q_sub, q_div, q_pos, q_neg, q_T, q_F, q_max0, q_flg1, q_flg0, q_min, q_min2, q_bit, q_some]
theorem q_has (x : Int32) (n : Nat) (hn : n < 2 ^ 30) : (∃ j, j < n ∧ x = nI j ∧ fX4_within x (nI 0) (nI n - nI 1) = some (nI 1)) ∨ ((∀ j, j < n → x ≠ nI j) ∧ fX4_within x (nI 0) (nI n - nI 1) = some (nI 0)) := by
  by_cases h0 : n = 0
  · subst h0
    refine Or.inr ⟨fun j h => absurd h (Nat.not_lt_zero j), ?_⟩
    unfold fX4_within
    split
    · rfl
    · rename_i h
      rw [if_pos]
      · rfl
      · rw [Int32.lt_iff_toInt_lt] at *
        rw [pk_sub_toInt (by decide) (by decide)]
        rw [nI_toInt (by decide)] at h
        omega
  · have e : nI n - nI 1 = nI (n - 1) := q_sub (by omega)
    rw [e]
    rcases q_within x (a := 0) (b := n - 1) (by omega) with ⟨j, h1, h2, rfl⟩ | ⟨h1, h2⟩
    · exact Or.inl ⟨j, by omega, rfl, q_win (by omega)⟩
    · exact Or.inr ⟨fun j h3 => h1 j (by omega) (by omega), h2⟩
theorem q_in5 (x y z : Int32) : fX5_in x.toInt64 y.toInt64 z.toInt64 = fX4_within x y z := by
  unfold fX5_in fX4_within
  simp only [lg_cmp_lt, lg_cmp_gt]
  simp only [Int64.lt_iff_toInt_lt, Int32.toInt_toInt64, Int32.lt_iff_toInt_lt]
theorem q_in_0_127 (x : Int32) : fX5_in x.toInt64 0 127 = fX4_within x (nI 0) (nI 127) := q_in5 x (nI 0) (nI 127)
theorem q_in_0_1 (x : Int32) : fX5_in x.toInt64 0 1 = fX4_within x (nI 0) (nI 1) := q_in5 x (nI 0) (nI 1)
theorem q_in_0_2 (x : Int32) : fX5_in x.toInt64 0 2 = fX4_within x (nI 0) (nI 2) := q_in5 x (nI 0) (nI 2)
theorem q_in_0_3 (x : Int32) : fX5_in x.toInt64 0 3 = fX4_within x (nI 0) (nI 3) := q_in5 x (nI 0) (nI 3)
theorem q_in_0_4 (x : Int32) : fX5_in x.toInt64 0 4 = fX4_within x (nI 0) (nI 4) := q_in5 x (nI 0) (nI 4)
theorem q_in_0_5 (x : Int32) : fX5_in x.toInt64 0 5 = fX4_within x (nI 0) (nI 5) := q_in5 x (nI 0) (nI 5)
theorem q_in_0_9 (x : Int32) : fX5_in x.toInt64 0 9 = fX4_within x (nI 0) (nI 9) := q_in5 x (nI 0) (nI 9)
theorem q_in_0_10 (x : Int32) : fX5_in x.toInt64 0 10 = fX4_within x (nI 0) (nI 10) := q_in5 x (nI 0) (nI 10)
theorem q_in_0_20 (x : Int32) : fX5_in x.toInt64 0 20 = fX4_within x (nI 0) (nI 20) := q_in5 x (nI 0) (nI 20)
theorem q_in_1_20 (x : Int32) : fX5_in x.toInt64 1 20 = fX4_within x (nI 1) (nI 20) := q_in5 x (nI 1) (nI 20)
theorem q_in_48_57 (x : Int32) : fX5_in x.toInt64 48 57 = fX4_within x (nI 48) (nI 57) := q_in5 x (nI 48) (nI 57)
theorem q_in_97_122 (x : Int32) : fX5_in x.toInt64 97 122 = fX4_within x (nI 97) (nI 122) := q_in5 x (nI 97) (nI 122)
theorem q_inB (x z : Int32) : fX5_in x.toInt64 0 z.toInt64 = fX4_within x (nI 0) z := q_in5 x (nI 0) z
theorem q_in_1_9 (x : Int32) : fX5_in x.toInt64 1 9 = fX4_within x (nI 1) (nI 9) := q_in5 x (nI 1) (nI 9)
end
section
/-! What class and model both hold: a shed as Nats by field (N, the numbers of the class's fields) and the bales as lists of bolts from the top (B). -/
abbrev NN : Type := Nat → Nat → Nat
abbrev BB : Type := Nat → List Nat
/-- the class's slice S holds it -/
def CS (N : NN) (B : BB) (S : M2) : Prop :=
  (S 0 0 = nI (N 0 0) ∧ S 4 0 = nI (N 4 0) ∧ S 7 0 = nI (N 7 0) ∧ S 12 0 = nI (N 12 0) ∧ S 13 0 = nI (N 13 0) ∧ S 14 0 = nI (N 14 0) ∧ S 15 0 = nI (N 15 0)) ∧
  (∀ b, b < N 0 0 → S 1 b = nI (N 1 b) ∧ S 2 b = nI (N 2 b) ∧ S 3 b = nI (N 3 b)) ∧
  (∀ m, m < N 7 0 → S 8 m = nI (N 8 m) ∧ S 9 m = nI (N 9 m) ∧ S 10 m = nI (N 10 m) ∧ S 11 m = nI (N 11 m)) ∧
  (∀ i, i < N 15 0 → S 16 i = nI (N 16 i) ∧ S 17 i = nI (N 17 i)) ∧
  (∀ k, k < 3 → S 6 k = nI (B k).length ∧ ∀ i b, (B k)[i]? = some b → S 5 (k * 5 + i) = nI b)
/-- the model's row r holds it -/
def MS (N : NN) (B : BB) (r : Nat → Int32) : Prop :=
  (r 46 = nI (N 12 0) ∧ r 47 = nI (N 13 0) ∧ r 48 = nI (N 14 0) ∧ r 49 = nI (N 15 0)) ∧
  (∀ b, b < N 0 0 → r (6 * b) = nI (N 1 b) ∧ r (6 * b + 1) = nI (N 2 b) ∧ r (6 * b + 2) = nI (N 3 b) ∧ r (6 * b + 3) = nI ((N 4 0).testBit b).toNat) ∧
  (∀ m, m < N 7 0 → r (30 + 4 * m) = nI (N 8 m) ∧ r (30 + 4 * m + 1) = nI (N 9 m) ∧ r (30 + 4 * m + 2) = nI (N 10 m) ∧ r (30 + 4 * m + 3) = nI (N 11 m)) ∧
  (∀ i, i < N 15 0 → r (50 + 2 * i) = nI (N 16 i) ∧ r (50 + 2 * i + 1) = nI (N 17 i)) ∧
  (∀ k, k < 3 → ∀ i b, (B k)[i]? = some b → r (6 * b + 4) = nI k ∧ r (6 * b + 5) = nI i)
/-- the model's state S: as S0 but for the row 'at', which holds it -/
def MA (N : NN) (B : BB) (S0 S : M2) : Prop := (∀ k, k ≠ 1 → S k = S0 k) ∧ S0 3 0 = nI (N 0 0) ∧ S0 4 0 = nI (N 7 0) ∧ MS N B (S 1)
/-- each bolt lies at one place -/
def WB (n : Nat) (B : BB) : Prop := ∀ x, (B 0).count x + (B 1).count x + (B 2).count x = if x < n then 1 else 0
def WF (N : NN) (B : BB) : Prop :=
  (N 0 0 ≤ 5 ∧ N 7 0 ≤ 4 ∧ N 4 0 < 2 ^ N 0 0 ∧ N 12 0 ≤ 3 ∧ 1 ≤ N 13 0 ∧ N 13 0 ≤ 9 ∧ N 15 0 ≤ 6) ∧
  (∀ b, b < N 0 0 → N 1 b ≤ 5 ∧ N 2 b ≤ 9 ∧ N 3 b ≤ N 2 b) ∧
  (∀ m, m < N 7 0 → N 8 m ≤ 3 ∧ N 9 m ≤ 5 ∧ N 10 m ≤ 9 ∧ N 11 m ≤ 2) ∧
  (∀ i, i < N 15 0 → N 16 i < N 0 0 ∧ N 17 i ≤ 9) ∧
  WB (N 0 0) B
theorem wb_cases {k : Nat} (h : k < 3) : k = 0 ∨ k = 1 ∨ k = 2 := by omega
theorem WB.lt {n : Nat} {B : BB} (h : WB n B) {k b : Nat} (hk : k < 3) (hb : b ∈ B k) : b < n := by
  have h1 := h b
  have h2 := List.count_pos_iff.mpr hb
  rcases wb_cases hk with rfl | rfl | rfl <;> (split at h1 <;> omega)
theorem WB.ex {n : Nat} {B : BB} (h : WB n B) {b : Nat} (hb : b < n) : ∃ k i : Nat, k < 3 ∧ (B k)[i]? = some b := by
  have h1 := h b
  rw [if_pos hb] at h1
  have e : b ∈ B 0 ∨ b ∈ B 1 ∨ b ∈ B 2 := by
    simp only [← List.count_pos_iff]
    omega
  rcases e with e | e | e
  · obtain ⟨i, hi⟩ := List.mem_iff_getElem?.mp e
    exact ⟨0, i, by omega, hi⟩
  · obtain ⟨i, hi⟩ := List.mem_iff_getElem?.mp e
    exact ⟨1, i, by omega, hi⟩
  · obtain ⟨i, hi⟩ := List.mem_iff_getElem?.mp e
    exact ⟨2, i, by omega, hi⟩
theorem WB.perm {n : Nat} {B : BB} (h : WB n B) : (B 0 ++ B 1 ++ B 2).Perm (List.range n) := by
  rw [List.perm_iff_count]
  intro a
  rw [List.count_append, List.count_append, h a, List.count_range]
theorem WB.len {n : Nat} {B : BB} (h : WB n B) : (B 0).length + (B 1).length + (B 2).length = n := by
  have := h.perm.length_eq
  simp only [List.length_append, List.length_range] at this
  exact this
theorem WB.le {n : Nat} {B : BB} (h : WB n B) {k : Nat} (hk : k < 3) : (B k).length ≤ n := by
  have := h.len
  rcases wb_cases hk with rfl | rfl | rfl <;> omega
theorem WB.nodup {n : Nat} {B : BB} (h : WB n B) {k : Nat} (hk : k < 3) : (B k).Nodup := by
  rw [List.nodup_iff_count]
  intro a
  have h1 := h a
  rcases wb_cases hk with rfl | rfl | rfl <;> (split at h1 <;> omega)
theorem WB.uq {n : Nat} {B : BB} (h : WB n B) {k k' b : Nat} (hk : k < 3) (hk' : k' < 3) (hb : b ∈ B k) (hb' : b ∈ B k') : k = k' := by
  have h1 := h b
  have h2 := List.count_pos_iff.mpr hb
  have h3 := List.count_pos_iff.mpr hb'
  rcases wb_cases hk with rfl | rfl | rfl <;> rcases wb_cases hk' with rfl | rfl | rfl <;> first | rfl | (split at h1 <;> omega)
theorem WB.at {n : Nat} {B : BB} (h : WB n B) {k k' i i' b : Nat} (hk : k < 3) (hk' : k' < 3) (hb : (B k)[i]? = some b) (hb' : (B k')[i']? = some b) : k = k' ∧ i = i' := by
  have e := h.uq hk hk' (List.mem_of_getElem? hb) (List.mem_of_getElem? hb')
  subst e
  exact ⟨rfl, (List.getElem?_inj (List.getElem?_eq_some_iff.mp hb).1 (h.nodup hk)).mp (hb.trans hb'.symm)⟩
theorem l_lt {α : Type} {l : List α} {i : Nat} {b : α} (h : l[i]? = some b) : i < l.length := (List.getElem?_eq_some_iff.mp h).1
/-! what is computed of it -/
def spApp (N : NN) (m : Nat) : Nat := if N 8 m = 1 then N 10 m + N 12 0 - 1 else if N 8 m = 2 then 2 * (N 10 m + N 12 0) else if N 8 m = 3 then (N 10 m + N 12 0) / 2 else N 10 m + N 12 0
def spLik (N : NN) (m b : Nat) : Bool := if N 8 m = 1 then decide (N 1 b = N 9 m) else if N 8 m = 2 then true else decide (N 1 b ≤ N 9 m + 1 ∧ N 9 m ≤ N 1 b + 1)
/-- a moth goes down a bale: holes h -/
def spEat (N : NN) (m : Nat) : List Nat → Nat → (Nat → Nat) → (Nat → Nat)
  | [], _, h => h
  | b :: l, a, h => if (N 4 0).testBit b = true then h else if spLik N m b = true then spEat N m l (a - min a (N 2 b - h b)) (va_up h b (h b + min a (N 2 b - h b))) else spEat N m l a h
/-- the moths among the bits of fl, the first t of them -/
def spLoose (N : NN) (B : BB) (fl : Nat) : Nat → (Nat → Nat)
  | 0 => N 3
  | t + 1 => if fl.testBit t = true then spEat N t (B (N 11 t)) (spApp N t) (spLoose N B fl t) else spLoose N B fl t
/-- sums of holes of a bale's bolts, the lesser of two neighbours once -/
def spDuty (h : Nat → Nat) : Nat → List Nat → Nat
  | _, [] => 0
  | above, b :: l => (h b - min (h b) above) + spDuty h (h b) l
def spAll (N : NN) (B : BB) : Nat := spDuty (N 3) 0 (B 0) * N 13 0 + spDuty (N 3) 0 (B 1) * N 13 0 + spDuty (N 3) 0 (B 2) * N 13 0
def spSum (h : Nat → Nat) : Nat → Nat
  | 0 => 0
  | b + 1 => spSum h b + h b
def spBits (p : Nat → Bool) : Nat → Nat
  | 0 => 0
  | b + 1 => if p b = true then spBits p b ||| 2 ^ b else spBits p b
def spEaten (N : NN) (b : Nat) : Bool := decide (0 < N 2 b ∧ N 3 b = N 2 b)
/-- all is as seen from sight i on, d of them, were the bolts of the set pricked -/
def spSeen (N : NN) (st : Nat) : Nat → Nat → Bool
  | 0, _ => true
  | d + 1, i => decide (N 3 (N 16 i) + (st.testBit (N 16 i) && decide (N 3 (N 16 i) < N 2 (N 16 i))).toNat = N 17 i) && spSeen N st d (i + 1)
def spNight (N : NN) (B : BB) (fl : Nat) : NN := va_up N 3 (spLoose N B fl (N 7 0))
def spPass (N : NN) (B : BB) (fl : Nat) : NN := va_up (va_up (spNight N B fl) 12 (fun _ => (N 12 0 + 1) % 4)) 14 (fun _ => N 14 0 + 1)
def spTake (B : BB) (k i : Nat) : BB := va_up B k ((B k).eraseIdx i)
def spTop (B : BB) (k b : Nat) : BB := va_up B k (b :: B k)
def spBot (B : BB) (k b : Nat) : BB := va_up B k (B k ++ [b])
end
section
theorem t_hasBolt {S : M2} {n : Nat} (h : S 0 0 = nI n) (hn : n ≤ 5) (x : Int32) : (∃ j, j < n ∧ x = nI j ∧ fX1_hasBolt x S = some (nI 1)) ∨ ((∀ j, j < n → x ≠ nI j) ∧ fX1_hasBolt x S = some (nI 0)) := by
  rcases q_has x n (by omega) with ⟨j, h1, h2, h3⟩ | ⟨h2, h3⟩
  · refine Or.inl ⟨j, h1, h2, ?_⟩
    unfold fX1_hasBolt
    rw [h, q_lit, q_lit, h3]
    rfl
  · refine Or.inr ⟨h2, ?_⟩
    unfold fX1_hasBolt
    rw [h, q_lit, q_lit, h3]
    rfl
theorem t_hasMoth {S : M2} {n : Nat} (h : S 7 0 = nI n) (hn : n ≤ 5) (x : Int32) : (∃ j, j < n ∧ x = nI j ∧ fX1_hasMoth x S = some (nI 1)) ∨ ((∀ j, j < n → x ≠ nI j) ∧ fX1_hasMoth x S = some (nI 0)) := by
  rcases q_has x n (by omega) with ⟨j, h1, h2, h3⟩ | ⟨h2, h3⟩
  · refine Or.inl ⟨j, h1, h2, ?_⟩
    unfold fX1_hasMoth
    rw [h, q_lit, q_lit, h3]
    rfl
  · refine Or.inr ⟨h2, ?_⟩
    unfold fX1_hasMoth
    rw [h, q_lit, q_lit, h3]
    rfl
theorem t_isBale (x : Int32) : (∃ j, j < 3 ∧ x = nI j ∧ fX4_isBale x = some (nI 1)) ∨ ((∀ j, j < 3 → x ≠ nI j) ∧ fX4_isBale x = some (nI 0)) := by
  unfold fX4_isBale
  rcases q_within x (a := 0) (b := 2) (by omega) with ⟨j, h1, h2, rfl⟩ | ⟨h1, h2⟩
  · refine Or.inl ⟨j, by omega, rfl, ?_⟩
    rw [q_lit, q_lit, q_win (by omega)]
    rfl
  · refine Or.inr ⟨fun j h3 => h1 j (by omega) (by omega), ?_⟩
    rw [q_lit, q_lit, h2]
    rfl
theorem t_hasCam {N : NN} {B : BB} {S : M2} (hS : CS N B S) (hc : N 4 0 < 32) {b : Nat} (hb : b < 5) : fX1_hasCamphor (nI b) S = some (nI ((N 4 0).testBit b).toNat) := by
  simp (disch := omega) only [fX1_hasCamphor, lt, jn, q_lit, q_bnd, q_cl, q_le, q_lt, q_eq, pk_mul, nI_add, q_sub, q_div, q_pos, q_neg, q_T, q_F, q_max0, q_flg1, q_flg0, q_min, q_min2, q_bit, q_some, hS.1.2.1, q_b1, q_fl]
theorem t_appetite {N : NN} {B : BB} {S : M2} (hS : CS N B S) (hW : WF N B) {m : Nat} (hm : m < N 7 0) : fX1_appetite (nI m) S = some (nI (spApp N m)) := by
  obtain ⟨h8, h9, h10, h11⟩ := hS.2.2.1 m hm
  obtain ⟨b8, b9, b10, b11⟩ := hW.2.2.1 m hm
  have w1 := hW.1
  have h12 := hS.1.2.2.2.1
  unfold spApp
  by_cases e1 : N 8 m = 1
  · by_cases e2 : N 10 m + N 12 0 = 0
    · have a1 : N 10 m = 0 := by omega
      have a2 : N 12 0 = 0 := by omega
      simp (disch := omega) only [fX1_appetite, lt, jn, q_lit, q_bnd, q_cl, q_le, q_lt, q_eq, pk_mul, nI_add, q_sub, q_div, q_pos, q_neg, q_T, q_F, q_max0, q_flg1, q_flg0, q_min, q_min2, q_bit, q_some, h8, h10, h12, e1, a1, a2]
      decide
    · simp (disch := omega) only [fX1_appetite, lt, jn, q_lit, q_bnd, q_cl, q_le, q_lt, q_eq, pk_mul, nI_add, q_sub, q_div, q_pos, q_neg, q_T, q_F, q_max0, q_flg1, q_flg0, q_min, q_min2, q_bit, q_some, h8, h10, h12, e1]
  · by_cases e2 : N 8 m = 2
    · simp (disch := omega) only [fX1_appetite, lt, jn, q_lit, q_bnd, q_cl, q_le, q_lt, q_eq, pk_mul, nI_add, q_sub, q_div, q_pos, q_neg, q_T, q_F, q_max0, q_flg1, q_flg0, q_min, q_min2, q_bit, q_some, h8, h10, h12, e2]
    · by_cases e3 : N 8 m = 3
      · simp (disch := omega) only [fX1_appetite, lt, jn, q_lit, q_bnd, q_cl, q_le, q_lt, q_eq, pk_mul, nI_add, q_sub, q_div, q_pos, q_neg, q_T, q_F, q_max0, q_flg1, q_flg0, q_min, q_min2, q_bit, q_some, h8, h10, h12, e3]
      · simp (disch := omega) only [fX1_appetite, lt, jn, q_lit, q_bnd, q_cl, q_le, q_lt, q_eq, pk_mul, nI_add, q_sub, q_div, q_pos, q_neg, q_T, q_F, q_max0, q_flg1, q_flg0, q_min, q_min2, q_bit, q_some, h8, h10, h12]
theorem q_gt1 {a b : Nat} (h : a < 2 ^ 30 ∧ b < 2 ^ 30) : (nI 1 < nI a - nI b) = (b + 1 < a) := by
  rw [Int32.lt_iff_toInt_lt, pk_sub_toInt h.1 h.2, nI_toInt (by decide)]
  exact propext ⟨fun h => by omega, fun h => by omega⟩
theorem t_likes {N : NN} {B : BB} {S : M2} (hS : CS N B S) (hW : WF N B) {m b : Nat} (hm : m < N 7 0) (hb : b < N 0 0) : fX1_likes (nI m) (nI b) S = some (nI (spLik N m b).toNat) := by
  obtain ⟨h8, h9, h10, h11⟩ := hS.2.2.1 m hm
  obtain ⟨b8, b9, b10, b11⟩ := hW.2.2.1 m hm
  obtain ⟨g1, g2, g3⟩ := hS.2.1 b hb
  obtain ⟨c1, c2, c3⟩ := hW.2.1 b hb
  have w1 := hW.1
  unfold spLik
  by_cases e1 : N 8 m = 1
  · simp (disch := omega) only [fX1_likes, lt, jn, q_lit, q_bnd, q_cl, q_le, q_lt, q_eq, pk_mul, nI_add, q_sub, q_div, q_pos, q_neg, q_T, q_F, q_max0, q_flg1, q_flg0, q_min, q_min2, q_bit, q_some, h8, h9, g1, e1]
    by_cases e2 : N 1 b = N 9 m
    · simp (disch := omega) only [q_T, e2, decide_true, Bool.toNat_true]
    · simp (disch := omega) only [q_F, e2, decide_false, Bool.toNat_false]
  · by_cases e2 : N 8 m = 2
    · simp (disch := omega) only [fX1_likes, lt, jn, q_lit, q_bnd, q_cl, q_le, q_lt, q_eq, pk_mul, nI_add, q_sub, q_div, q_pos, q_neg, q_T, q_F, q_max0, q_flg1, q_flg0, q_min, q_min2, q_bit, q_some, h8, h9, g1, e2, Bool.toNat_true]
    · simp (disch := omega) only [fX1_likes, lt, jn, q_lit, q_bnd, q_cl, q_le, q_lt, q_eq, pk_mul, nI_add, q_sub, q_div, q_pos, q_neg, q_T, q_F, q_max0, q_flg1, q_flg0, q_min, q_min2, q_bit, q_some, h8, h9, g1, q_gt1]
      by_cases e3 : N 9 m + 1 < N 1 b
      · have : ¬ (N 1 b ≤ N 9 m + 1 ∧ N 9 m ≤ N 1 b + 1) := by omega
        simp (disch := omega) only [q_pos, this, decide_false, Bool.toNat_false]
      · by_cases e4 : N 1 b + 1 < N 9 m
        · have : ¬ (N 1 b ≤ N 9 m + 1 ∧ N 9 m ≤ N 1 b + 1) := by omega
          simp (disch := omega) only [q_pos, q_neg, this, decide_false, Bool.toNat_false]
        · have : (N 1 b ≤ N 9 m + 1 ∧ N 9 m ≤ N 1 b + 1) := by omega
          simp (disch := omega) only [q_neg, this, and_self, decide_true, Bool.toNat_true]

theorem t_liked_L {N : NN} {B : BB} {S : M2} (hS : CS N B S) (hW : WF N B) {m : Nat} (hm : m < N 7 0) (kk : Int32 → Option Int32) : ∀ d b f : Nat, b + d = N 0 0 → d < f → fX1_liked_L4 S (nI m) kk f (nI (spBits (spLik N m) b)) (nI b) = kk (nI (spBits (spLik N m) (N 0 0)))
  | 0, b, f + 1, hb, hf => by
    have w1 := hW.1
    have e : b = N 0 0 := by omega
    simp (disch := omega) only [fX1_liked_L4, lt, jn, q_lit, q_bnd, q_cl, q_le, q_lt, q_eq, pk_mul, nI_add, q_sub, q_div, q_pos, q_neg, q_T, q_F, q_max0, q_flg1, q_flg0, q_min, q_min2, q_bit, q_some, hS.1.1, e]
  | d + 1, b, f + 1, hb, hf => by
    have w1 := hW.1
    have h1 : b < N 0 0 := by omega
    have ih := t_liked_L hS hW hm kk d (b + 1) f (by omega) (by omega)
    simp (disch := omega) only [fX1_liked_L4, lt, jn, q_lit, q_bnd, q_cl, q_le, q_lt, q_eq, pk_mul, nI_add, q_sub, q_div, q_pos, q_neg, q_T, q_F, q_max0, q_flg1, q_flg0, q_min, q_min2, q_bit, q_some, hS.1.1, t_likes hS hW hm h1, q_b0, q_tf, q_shl, q_or]
    rw [spBits] at ih
    split
    · rename_i h2
      rw [if_pos h2] at ih
      exact ih
    · rename_i h2
      rw [if_neg h2] at ih
      exact ih
theorem t_liked {N : NN} {B : BB} {S : M2} (hS : CS N B S) (hW : WF N B) {m : Nat} (hm : m < N 7 0) : fX1_liked (nI m) S = some (nI (spBits (spLik N m) (N 0 0))) :=
  t_liked_L hS hW hm _ (N 0 0) 0 400 (by omega) (by have := hW.1; omega)
theorem t_sum_L {N : NN} {B : BB} {S : M2} (hS : CS N B S) (hW : WF N B) (kk : Int32 → Option Int32) : ∀ d b f : Nat, b + d = N 0 0 → d < f → fX1_holesInAll_L4 S kk f (nI (spSum (N 3) b)) (nI b) = kk (nI (spSum (N 3) (N 0 0)))
  | 0, b, f + 1, hb, hf => by
    have w1 := hW.1
    have e : b = N 0 0 := by omega
    simp (disch := omega) only [fX1_holesInAll_L4, lt, jn, q_lit, q_bnd, q_cl, q_le, q_lt, q_eq, pk_mul, nI_add, q_sub, q_div, q_pos, q_neg, q_T, q_F, q_max0, q_flg1, q_flg0, q_min, q_min2, q_bit, q_some, hS.1.1, e]
  | d + 1, b, f + 1, hb, hf => by
    have w1 := hW.1
    have h1 : b < N 0 0 := by omega
    have ih := t_sum_L hS hW kk d (b + 1) f (by omega) (by omega)
    simp (disch := omega) only [fX1_holesInAll_L4, lt, jn, q_lit, q_bnd, q_cl, q_le, q_lt, q_eq, pk_mul, nI_add, q_sub, q_div, q_pos, q_neg, q_T, q_F, q_max0, q_flg1, q_flg0, q_min, q_min2, q_bit, q_some, hS.1.1, (hS.2.1 b h1).2.2]
    exact ih
theorem t_sum {N : NN} {B : BB} {S : M2} (hS : CS N B S) (hW : WF N B) : fX1_holesInAll S = some (nI (spSum (N 3) (N 0 0))) :=
  t_sum_L hS hW _ (N 0 0) 0 400 (by omega) (by have := hW.1; omega)
theorem t_eaten {N : NN} {B : BB} {S : M2} (hS : CS N B S) (hW : WF N B) {b : Nat} (hb : b < N 0 0) : fX1_isEatenUp (nI b) S = some (nI (spEaten N b).toNat) := by
  have w1 := hW.1
  obtain ⟨g1, g2, g3⟩ := hS.2.1 b hb
  obtain ⟨c1, c2, c3⟩ := hW.2.1 b hb
  unfold spEaten
  simp (disch := omega) only [fX1_isEatenUp, lt, jn, q_lit, q_bnd, q_cl, q_le, q_lt, q_eq, pk_mul, nI_add, q_sub, q_div, q_pos, q_neg, q_T, q_F, q_max0, q_flg1, q_flg0, q_min, q_min2, q_bit, q_some, g2, g3]
  by_cases e1 : N 2 b ≤ 0
  · have : ¬ (0 < N 2 b ∧ N 3 b = N 2 b) := by omega
    simp (disch := omega) only [q_pos, this, decide_false, Bool.toNat_false]
  · by_cases e2 : N 3 b = N 2 b
    · have : (0 < N 2 b ∧ N 3 b = N 2 b) := by omega
      rw [if_neg e1, if_pos e2, decide_eq_true this]
      rfl
    · have : ¬ (0 < N 2 b ∧ N 3 b = N 2 b) := by omega
      rw [if_neg e1, if_neg e2, decide_eq_false this]
      rfl
theorem t_eatenUp_L {N : NN} {B : BB} {S : M2} (hS : CS N B S) (hW : WF N B) (kk : Int32 → Option Int32) : ∀ d b f : Nat, b + d = N 0 0 → d < f → fX1_eatenUp_L4 S kk f (nI (spBits (spEaten N) b)) (nI b) = kk (nI (spBits (spEaten N) (N 0 0)))
  | 0, b, f + 1, hb, hf => by
    have w1 := hW.1
    have e : b = N 0 0 := by omega
    simp (disch := omega) only [fX1_eatenUp_L4, lt, jn, q_lit, q_bnd, q_cl, q_le, q_lt, q_eq, pk_mul, nI_add, q_sub, q_div, q_pos, q_neg, q_T, q_F, q_max0, q_flg1, q_flg0, q_min, q_min2, q_bit, q_some, hS.1.1, e]
  | d + 1, b, f + 1, hb, hf => by
    have w1 := hW.1
    have h1 : b < N 0 0 := by omega
    have ih := t_eatenUp_L hS hW kk d (b + 1) f (by omega) (by omega)
    simp (disch := omega) only [fX1_eatenUp_L4, lt, jn, q_lit, q_bnd, q_cl, q_le, q_lt, q_eq, pk_mul, nI_add, q_sub, q_div, q_pos, q_neg, q_T, q_F, q_max0, q_flg1, q_flg0, q_min, q_min2, q_bit, q_some, hS.1.1, t_eaten hS hW h1, q_b0, q_tf, q_shl, q_or]
    rw [spBits] at ih
    split
    · rename_i h2
      rw [if_pos h2] at ih
      exact ih
    · rename_i h2
      rw [if_neg h2] at ih
      exact ih
theorem t_eatenUp {N : NN} {B : BB} {S : M2} (hS : CS N B S) (hW : WF N B) : fX1_eatenUp S = some (nI (spBits (spEaten N) (N 0 0))) :=
  t_eatenUp_L hS hW _ (N 0 0) 0 400 (by omega) (by have := hW.1; omega)
theorem t_duty_L {N : NN} {B : BB} {S : M2} (hS : CS N B S) (hW : WF N B) {k : Nat} (hk : k < 3) (kk : Int32 → Option Int32) : ∀ (l pre : List Nat) (a s f : Nat), B k = pre ++ l → a ≤ 9 → s ≤ 9 * pre.length → l.length < f → fX1_dutyOf_L7 S (nI k) kk f (nI s) (nI a) (nI pre.length) = kk (nI (s + spDuty (N 3) a l))
  | [], pre, a, s, f + 1, hB, ha, hs, hf => by
    have w1 := hW.1
    have w2 := hW.2.2.2.2.le hk
    have h6 := (hS.2.2.2.2 k hk).1
    simp only [List.append_nil] at hB
    have hl : (B k).length = pre.length := by rw [hB]
    simp (disch := omega) only [fX1_dutyOf_L7, lt, jn, q_lit, q_bnd, q_cl, q_le, q_lt, q_eq, pk_mul, nI_add, q_sub, q_div, q_pos, q_neg, q_T, q_F, q_max0, q_flg1, q_flg0, q_min, q_min2, q_bit, q_some, h6, hl, spDuty, Nat.add_zero]
  | b :: l, pre, a, s, f + 1, hB, ha, hs, hf => by
    have w1 := hW.1
    have w2 := hW.2.2.2.2.le hk
    have h6 := (hS.2.2.2.2 k hk).1
    have hl : (B k).length = pre.length + (l.length + 1) := by rw [hB]; simp
    have hbm : b ∈ B k := by rw [hB]; simp
    have hb1 : b < N 0 0 := hW.2.2.2.2.lt hk hbm
    have c := hW.2.1 b hb1
    have h5' := (hS.2.2.2.2 k hk).2 pre.length b (by rw [hB]; simp)
    have h3 := (hS.2.1 b hb1).2.2
    have ih := t_duty_L hS hW hk kk l (pre ++ [b]) (N 3 b) (s + (N 3 b - min a (N 3 b))) f (by rw [hB]; simp) (by omega) (by simp; omega) (by simp at hf; omega)
    rw [List.length_append, List.length_singleton] at ih
    simp (disch := omega) only [fX1_dutyOf_L7, lt, jn, q_lit, q_bnd, q_cl, q_le, q_lt, q_eq, pk_mul, nI_add, q_sub, q_div, q_pos, q_neg, q_T, q_F, q_max0, q_flg1, q_flg0, q_min, q_min2, q_bit, q_some, h6, hl, h5', h3]
    rw [ih, spDuty, Nat.add_assoc, Nat.min_comm]
theorem t_duty {N : NN} {B : BB} {S : M2} (hS : CS N B S) (hW : WF N B) {k : Nat} (hk : k < 3) : fX1_dutyOf (nI k) S = some (nI (spDuty (N 3) 0 (B k) * N 13 0)) := by
  have w1 := hW.1
  have w2 := hW.2.2.2.2.le hk
  have := t_duty_L hS hW hk (fun p8 => some (p8 * (S 13 0))) (B k) [] 0 0 400 rfl (by omega) (by omega) (by omega)
  unfold fX1_dutyOf
  rw [Nat.zero_add] at this
  refine this.trans ?_
  rw [hS.1.2.2.2.2.1, pk_mul]
theorem t_dutyAll_L {N : NN} {B : BB} {S : M2} (hS : CS N B S) (hW : WF N B) (kk : Int32 → Option Int32) (f : Nat) : fX1_dutyOfAll_L4 S kk (f + 4) (nI 0) (nI 0) = kk (nI (spAll N B)) := by
  have h0 := t_duty hS hW (k := 0) (by omega)
  have h1 := t_duty hS hW (k := 1) (by omega)
  have h2 := t_duty hS hW (k := 2) (by omega)
  unfold spAll
  rw [fX1_dutyOfAll_L4]
  simp (disch := omega) only [lt, jn, q_lit, q_bnd, q_cl, q_le, q_lt, q_eq, pk_mul, nI_add, q_sub, q_div, q_pos, q_neg, q_T, q_F, q_max0, q_flg1, q_flg0, q_min, q_min2, q_bit, q_some, h0]
  rw [fX1_dutyOfAll_L4]
  simp (disch := omega) only [lt, jn, q_lit, q_bnd, q_cl, q_le, q_lt, q_eq, pk_mul, nI_add, q_sub, q_div, q_pos, q_neg, q_T, q_F, q_max0, q_flg1, q_flg0, q_min, q_min2, q_bit, q_some, h1]
  rw [fX1_dutyOfAll_L4]
  simp (disch := omega) only [lt, jn, q_lit, q_bnd, q_cl, q_le, q_lt, q_eq, pk_mul, nI_add, q_sub, q_div, q_pos, q_neg, q_T, q_F, q_max0, q_flg1, q_flg0, q_min, q_min2, q_bit, q_some, h2]
  rw [fX1_dutyOfAll_L4]
  simp (disch := omega) only [lt, jn, q_lit, q_bnd, q_cl, q_le, q_lt, q_eq, pk_mul, nI_add, q_sub, q_div, q_pos, q_neg, q_T, q_F, q_max0, q_flg1, q_flg0, q_min, q_min2, q_bit, q_some, Nat.zero_add]
theorem t_dutyAll {N : NN} {B : BB} {S : M2} (hS : CS N B S) (hW : WF N B) : fX1_dutyOfAll S = some (nI (spAll N B)) :=
  t_dutyAll_L hS hW (fun p7 => some p7) 396
theorem t_seen_L {N : NN} {B : BB} {S : M2} (hS : CS N B S) (hW : WF N B) {st : Nat} (hst : st < 32) : ∀ d i f : Nat, i + d = N 15 0 → d < f → fX1_isAsSeen_L2 S (nI st) (fun _ => some (1 : Int32)) f (nI i) = some (nI (spSeen N st d i).toNat)
  | 0, i, f + 1, hi, hf => by
    have w1 := hW.1
    have e : i = N 15 0 := by omega
    simp (disch := omega) only [fX1_isAsSeen_L2, lt, jn, q_lit, q_bnd, q_cl, q_le, q_lt, q_eq, pk_mul, nI_add, q_sub, q_div, q_pos, q_neg, q_T, q_F, q_max0, q_flg1, q_flg0, q_min, q_min2, q_bit, q_some, hS.1.2.2.2.2.2.2, e, spSeen, Bool.toNat_true]
  | d + 1, i, f + 1, hi, hf => by
    have w1 := hW.1
    have h1 : i < N 15 0 := by omega
    obtain ⟨h16, h17⟩ := hS.2.2.2.1 i h1
    obtain ⟨w16, w17⟩ := hW.2.2.2.1 i h1
    obtain ⟨g1, g2, g3⟩ := hS.2.1 _ w16
    obtain ⟨c1, c2, c3⟩ := hW.2.1 _ w16
    have ih := t_seen_L hS hW hst d (i + 1) f (by omega) (by omega)
    rw [spSeen]
    simp (disch := omega) only [fX1_isAsSeen_L2, lt, jn, q_lit, q_bnd, q_cl, q_le, q_lt, q_eq, pk_mul, nI_add, q_sub, q_div, q_pos, q_neg, q_T, q_F, q_max0, q_flg1, q_flg0, q_min, q_min2, q_bit, q_some, hS.1.2.2.2.2.2.2, h16, h17, g2, g3, q_b1, ih]
    by_cases e1 : st.testBit (N 16 i) = true
    · by_cases e2 : N 3 (N 16 i) < N 2 (N 16 i)
      · have e3 : ¬ N 2 (N 16 i) ≤ N 3 (N 16 i) := by omega
        simp only [e1, e2, e3, q_T, q_F, decide_true, Bool.and_true, Bool.toNat_true, Bool.true_and]
        by_cases e4 : N 3 (N 16 i) + 1 = N 17 i <;> simp [e4]
        exact ih
      · have e3 : N 2 (N 16 i) ≤ N 3 (N 16 i) := by omega
        simp only [e1, e2, e3, q_T, q_F, decide_false, Bool.and_false, Bool.toNat_false, Nat.add_zero]
        by_cases e4 : N 3 (N 16 i) = N 17 i <;> simp [e4]
        exact ih
    · simp only [e1, q_F, Bool.false_and, Bool.toNat_false, Nat.add_zero, Bool.false_eq_true]
      by_cases e4 : N 3 (N 16 i) = N 17 i <;> simp [e4]
      exact ih
theorem t_seen {N : NN} {B : BB} {S : M2} (hS : CS N B S) (hW : WF N B) {st : Nat} (hst : st < 32) : fX1_isAsSeen (nI st) S = some (nI (spSeen N st (N 15 0) 0).toNat) :=
  t_seen_L hS hW hst (N 15 0) 0 400 (by omega) (by have := hW.1; omega)
/-! nights -/
theorem spEat_zero (N : NN) (m : Nat) : ∀ (l : List Nat) (h : Nat → Nat), spEat N m l 0 h = h
  | [], h => rfl
  | b :: l, h => by
    have e : va_up h b (h b + min 0 (N 2 b - h b)) = h := by
      funext j
      rw [Nat.zero_min, Nat.add_zero]
      unfold va_up
      split
      · rename_i e
        rw [e]
      · rfl
    rw [spEat, Nat.zero_sub, e, spEat_zero N m l h]
    split
    · rfl
    · split <;> rfl
theorem CS.holes {N : NN} {B : BB} {S : M2} {h : Nat → Nat} (hS : CS (va_up N 3 h) B S) {b v : Nat} : CS (va_up N 3 (va_up h b v)) B (va_up S 3 (upd (S 3) b (nI v))) := by
  obtain ⟨h1, h2, h3, h4, h5⟩ := hS
  refine ⟨h1, fun b' hb' => ⟨(h2 b' hb').1, (h2 b' hb').2.1, ?_⟩, h3, h4, h5⟩
  show upd (S 3) b (nI v) b' = nI (va_up h b v b')
  rw [q_ud, q_up]
  split
  · rfl
  · exact (h2 b' hb').2.2
theorem WF.holes {N : NN} {B : BB} {h : Nat → Nat} (hW : WF (va_up N 3 h) B) {b v : Nat} (hv : v ≤ N 2 b) : WF (va_up N 3 (va_up h b v)) B := by
  obtain ⟨h1, h2, h3, h4, h5⟩ := hW
  refine ⟨h1, fun b' hb' => ⟨(h2 b' hb').1, (h2 b' hb').2.1, ?_⟩, h3, h4, h5⟩
  show va_up h b v b' ≤ N 2 b'
  rw [q_up]
  split
  · rename_i e
    rw [e]
    exact hv
  · exact (h2 b' hb').2.2
theorem t_eat_L {N : NN} {B : BB} {m k : Nat} (hm : m < N 7 0) (hk : k < 3) : ∀ (l pre : List Nat) (a f : Nat) (h : Nat → Nat) (S : M2), B k = pre ++ l → CS (va_up N 3 h) B S → WF (va_up N 3 h) B → a ≤ 100 → l.length < f → ∃ S', fX1_eatDown_L16 (nI m) (nI k) (fun p => some p) f (nI a) (nI pre.length) S = some S' ∧ CS (va_up N 3 (spEat N m l a h)) B S' ∧ WF (va_up N 3 (spEat N m l a h)) B
  | [], pre, a, f + 1, h, S, hB, hS, hW, ha, hf => by
    have w1 := hW.1
    have w2 := hW.2.2.2.2.le hk
    have h6 := (hS.2.2.2.2 k hk).1
    simp only [List.append_nil] at hB
    have hl : (B k).length = pre.length := by rw [hB]
    have w3 : N 0 0 ≤ 5 := w1.1
    have w4 : (B k).length ≤ N 0 0 := w2
    refine ⟨S, ?_, hS, hW⟩
    simp (disch := omega) only [fX1_eatDown_L16, lt, jn, q_lit, q_bnd, q_cl, q_le, q_lt, q_eq, pk_mul, nI_add, q_sub, q_div, q_pos, q_neg, q_T, q_F, q_max0, q_flg1, q_flg0, q_min, q_min2, q_bit, q_some, h6, hl]
  | b :: l, pre, a, f + 1, h, S, hB, hS, hW, ha, hf => by
    have w1 := hW.1
    have w2 : (B k).length ≤ N 0 0 := hW.2.2.2.2.le hk
    have w3 : N 0 0 ≤ 5 := w1.1
    have w4 : N 4 0 < 2 ^ N 0 0 := w1.2.2.1
    have w5 : 2 ^ N 0 0 ≤ 2 ^ 5 := Nat.pow_le_pow_right (by decide) w3
    have h6 := (hS.2.2.2.2 k hk).1
    have hl : (B k).length = pre.length + (l.length + 1) := by rw [hB]; simp
    have hbm : b ∈ B k := by rw [hB]; simp
    have hb1 : b < N 0 0 := hW.2.2.2.2.lt hk hbm
    have c2 : N 2 b ≤ 9 := (hW.2.1 b hb1).2.1
    have c3 : h b ≤ N 2 b := (hW.2.1 b hb1).2.2
    have h5' := (hS.2.2.2.2 k hk).2 pre.length b (by rw [hB]; simp)
    have g2 : S 2 b = nI (N 2 b) := (hS.2.1 b hb1).2.1
    have g3 : S 3 b = nI (h b) := (hS.2.1 b hb1).2.2
    have ec : fX1_hasCamphor (nI b) S = some (nI ((N 4 0).testBit b).toNat) := t_hasCam hS (by show N 4 0 < 32; omega) (by omega)
    have el : fX1_likes (nI m) (nI b) S = some (nI (spLik N m b).toNat) := t_likes hS hW hm hb1
    rw [spEat]
    by_cases e0 : a = 0
    · subst e0
      refine ⟨S, ?_, ?_⟩
      · simp (disch := omega) only [fX1_eatDown_L16, lt, jn, q_lit, q_bnd, q_cl, q_le, q_lt, q_eq, pk_mul, nI_add, q_sub, q_div, q_pos, q_neg, q_T, q_F, q_max0, q_flg1, q_flg0, q_min, q_min2, q_bit, q_some, h6, hl]
      · rw [← spEat, spEat_zero]
        exact ⟨hS, hW⟩
    · by_cases e1 : (N 4 0).testBit b = true
      · refine ⟨S, ?_, ?_⟩
        · simp (disch := omega) only [fX1_eatDown_L16, lt, jn, q_lit, q_bnd, q_cl, q_le, q_lt, q_eq, pk_mul, nI_add, q_sub, q_div, q_pos, q_neg, q_T, q_F, q_max0, q_flg1, q_flg0, q_min, q_min2, q_bit, q_some, h6, hl, h5', ec, q_b0, e1, Bool.true_eq_false]
        · rw [if_pos e1]
          exact ⟨hS, hW⟩
      · rw [if_neg e1]
        have e1' : (N 4 0).testBit b = false := by simpa using e1
        by_cases e2 : spLik N m b = true
        · rw [if_pos e2]
          have ih := t_eat_L hm hk l (pre ++ [b]) (a - min a (N 2 b - h b)) f (va_up h b (h b + min a (N 2 b - h b))) (va_up S 3 (upd (S 3) b (nI (h b + min a (N 2 b - h b))))) (by rw [hB]; simp) hS.holes (hW.holes (by omega)) (by omega) (by simp at hf; omega)
          rw [List.length_append, List.length_singleton] at ih
          obtain ⟨S', i1, i2⟩ := ih
          refine ⟨S', ?_, i2⟩
          simp (disch := omega) only [fX1_eatDown_L16, lt, jn, q_lit, q_bnd, q_cl, q_le, q_lt, q_eq, pk_mul, nI_add, q_sub, q_div, q_pos, q_neg, q_T, q_F, q_max0, q_flg1, q_flg0, q_min, q_min2, q_bit, q_some, h6, hl, h5', ec, el, q_b0, e1', e2, Bool.true_eq_false, g2, g3]
          rw [Nat.min_comm]
          exact i1
        · rw [if_neg e2]
          have e2' : spLik N m b = false := by simpa using e2
          have ih := t_eat_L hm hk l (pre ++ [b]) a f h S (by rw [hB]; simp) hS hW ha (by simp at hf; omega)
          rw [List.length_append, List.length_singleton] at ih
          obtain ⟨S', i1, i2⟩ := ih
          refine ⟨S', ?_, i2⟩
          simp (disch := omega) only [fX1_eatDown_L16, lt, jn, q_lit, q_bnd, q_cl, q_le, q_lt, q_eq, pk_mul, nI_add, q_sub, q_div, q_pos, q_neg, q_T, q_F, q_max0, q_flg1, q_flg0, q_min, q_min2, q_bit, q_some, h6, hl, h5', ec, el, q_b0, e1', e2', Bool.true_eq_false]
          exact i1
end
section
theorem up_id {α : Type} (f : Nat → α) (k : Nat) : va_up f k (f k) = f := by
  funext j
  unfold va_up
  split
  · rename_i e
    rw [e]
  · rfl
theorem up_up {α : Type} (f : Nat → α) (k : Nat) (v w : α) : va_up (va_up f k v) k w = va_up f k w := by
  funext j
  unfold va_up
  split <;> rfl
theorem t_eatDown {N : NN} {B : BB} {S : M2} {h : Nat → Nat} {m : Nat} (hS : CS (va_up N 3 h) B S) (hW : WF (va_up N 3 h) B) (hm : m < N 7 0) : ∃ S', fX1_eatDown (nI m) S = some S' ∧ CS (va_up N 3 (spEat N m (B (N 11 m)) (spApp N m) h)) B S' ∧ WF (va_up N 3 (spEat N m (B (N 11 m)) (spApp N m) h)) B := by
  have w1 := hW.1
  have w2 : N 7 0 ≤ 4 := w1.2.1
  have wm : N 12 0 ≤ 3 := w1.2.2.2.1
  have w3 : N 10 m ≤ 9 := (hW.2.2.1 m hm).2.2.1
  have w4 : N 11 m ≤ 2 := (hW.2.2.1 m hm).2.2.2
  have e1 : fX1_appetite (nI m) S = some (nI (spApp N m)) := t_appetite hS hW hm
  have e2 : S 11 m = nI (N 11 m) := (hS.2.2.1 m hm).2.2.2
  have w5 : spApp N m ≤ 100 := by
    unfold spApp
    split
    · omega
    · split
      · omega
      · split <;> omega
  have w6 : (B (N 11 m)).length ≤ N 0 0 := hW.2.2.2.2.le (by omega)
  have w7 : N 0 0 ≤ 5 := w1.1
  obtain ⟨S', i1, i2⟩ := t_eat_L (k := N 11 m) hm (by omega) (B (N 11 m)) [] (spApp N m) 400 h S rfl hS hW w5 (by omega)
  refine ⟨S', ?_, i2⟩
  unfold fX1_eatDown
  simp (disch := omega) only [lt, jn, q_lit, q_bnd, q_cl, q_le, q_lt, q_eq, pk_mul, nI_add, q_sub, q_div, q_pos, q_neg, q_T, q_F, q_max0, q_flg1, q_flg0, q_min, q_min2, q_bit, q_some, e1, e2]
  exact i1
theorem t_loose_L {N : NN} {B : BB} {fl : Nat} (hf : fl < 32) : ∀ (d t f : Nat) (S : M2), t + d = N 7 0 → d < f → CS (va_up N 3 (spLoose N B fl t)) B S → WF (va_up N 3 (spLoose N B fl t)) B → ∃ S', fX1_letLoose_L2 (nI fl) (fun p => some p) f (nI t) S = some S' ∧ CS (spNight N B fl) B S' ∧ WF (spNight N B fl) B
  | 0, t, f + 1, S, ht, hd, hS, hW => by
    have w2 : N 7 0 ≤ 4 := hW.1.2.1
    have e : S 7 0 = nI (N 7 0) := hS.1.2.2.1
    have e2 : t = N 7 0 := by omega
    subst e2
    refine ⟨S, ?_, hS, hW⟩
    simp (disch := omega) only [fX1_letLoose_L2, lt, jn, q_lit, q_bnd, q_cl, q_le, q_lt, q_eq, pk_mul, nI_add, q_sub, q_div, q_pos, q_neg, q_T, q_F, q_max0, q_flg1, q_flg0, q_min, q_min2, q_bit, q_some, e]
  | d + 1, t, f + 1, S, ht, hd, hS, hW => by
    have w2 : N 7 0 ≤ 4 := hW.1.2.1
    have e : S 7 0 = nI (N 7 0) := hS.1.2.2.1
    have hm : t < N 7 0 := by omega
    by_cases e1 : fl.testBit t = true
    · obtain ⟨S1, i1, i2, i3⟩ := t_eatDown (m := t) hS hW hm
      obtain ⟨S2, j1, j2⟩ := t_loose_L (N := N) (B := B) hf d (t + 1) f S1 (by omega) (by omega) (by rw [spLoose, if_pos e1]; exact i2) (by rw [spLoose, if_pos e1]; exact i3)
      refine ⟨S2, ?_, j2⟩
      simp (disch := omega) only [fX1_letLoose_L2, lt, jn, q_lit, q_bnd, q_cl, q_le, q_lt, q_eq, pk_mul, nI_add, q_sub, q_div, q_pos, q_neg, q_T, q_F, q_max0, q_flg1, q_flg0, q_min, q_min2, q_bit, q_some, e, q_b1, e1, i1]
      exact j1
    · obtain ⟨S2, j1, j2⟩ := t_loose_L (N := N) (B := B) hf d (t + 1) f S (by omega) (by omega) (by rw [spLoose, if_neg e1]; exact hS) (by rw [spLoose, if_neg e1]; exact hW)
      refine ⟨S2, ?_, j2⟩
      simp (disch := omega) only [fX1_letLoose_L2, lt, jn, q_lit, q_bnd, q_cl, q_le, q_lt, q_eq, pk_mul, nI_add, q_sub, q_div, q_pos, q_neg, q_T, q_F, q_max0, q_flg1, q_flg0, q_min, q_min2, q_bit, q_some, e, q_b1, e1]
      exact j1
theorem t_loose {N : NN} {B : BB} {S : M2} {fl : Nat} (hf : fl < 32) (hS : CS N B S) (hW : WF N B) : ∃ S', fX1_letLoose (nI fl) S = some S' ∧ CS (spNight N B fl) B S' ∧ WF (spNight N B fl) B := by
  have w2 : N 7 0 ≤ 4 := hW.1.2.1
  have e : va_up N 3 (spLoose N B fl 0) = N := up_id N 3
  exact t_loose_L hf (N 7 0) 0 400 S (by omega) (by omega) (by rw [e]; exact hS) (by rw [e]; exact hW)
theorem WF.pass {N : NN} {B : BB} {fl : Nat} (hW : WF (spNight N B fl) B) : WF (spPass N B fl) B := by
  obtain ⟨⟨h1, h2, h3, h4, h5, h6, h7⟩, h8⟩ := hW
  exact ⟨⟨h1, h2, h3, (by show (N 12 0 + 1) % 4 ≤ 3; omega), h5, h6, h7⟩, h8⟩
theorem t_pass {N : NN} {B : BB} {S : M2} (hS : CS N B S) (hW : WF N B) : ∃ S', fX1_passNight S = some S' ∧ CS (spPass N B 15) B S' ∧ WF (spPass N B 15) B := by
  obtain ⟨S1, i1, i2, i3⟩ := t_loose (fl := 15) (by omega) hS hW
  have wm : N 12 0 ≤ 3 := hW.1.2.2.2.1
  have e12 : S1 12 0 = nI (N 12 0) := i2.1.2.2.2.1
  have e14 : S1 14 0 = nI (N 14 0) := i2.1.2.2.2.2.2.1
  refine ⟨va_up (va_up S1 12 (fun _ => nI ((N 12 0 + 1) % 4))) 14 (fun _ => nI (N 14 0 + 1)), ?_, ?_, i3.pass⟩
  · unfold fX1_passNight
    simp (disch := omega) only [lt, jn, q_lit, q_bnd, q_cl, q_le, q_lt, q_eq, pk_mul, nI_add, q_sub, q_div, q_pos, q_neg, q_T, q_F, q_max0, q_flg1, q_flg0, q_min, q_min2, q_bit, q_some, i1, e12]
    have e14' : (va_up S1 12 (fun _ => nI (N 12 0 + 1 - (N 12 0 + 1) / 4 * 4))) 14 0 = nI (N 14 0) := e14
    simp (disch := omega) only [lt, jn, q_lit, q_bnd, q_cl, q_le, q_lt, q_eq, pk_mul, nI_add, q_sub, q_div, q_pos, q_neg, q_T, q_F, q_max0, q_flg1, q_flg0, q_min, q_min2, q_bit, q_some, e14']
    rw [show N 12 0 + 1 - (N 12 0 + 1) / 4 * 4 = (N 12 0 + 1) % 4 by omega]
  · obtain ⟨⟨h1, h2, h3, h4, h5, h6, h7⟩, h8⟩ := i2
    exact ⟨⟨h1, h2, h3, rfl, h5, rfl, h7⟩, h8⟩
/-! copies -/
theorem q_cpy {f g : Nat → Int32} {n j : Nat} (h : j < n) : va_cpy f g 0 0 n j = f j := by
  rw [pk_cpy_in (Nat.zero_le _) (by omega), Nat.zero_add, Nat.sub_zero]
theorem t_copyHoles {N : NN} {B : BB} {S T : M2} {h : Nat → Nat} (hS : CS (va_up N 3 h) B S) (hT : ∀ b, b < N 0 0 → T 3 b = nI (N 3 b)) (hn : N 0 0 ≤ 5) : ∃ S', fX1_copyHolesFrom S T = some S' ∧ CS N B S' := by
  obtain ⟨h1, h2, h3, h4, h5⟩ := hS
  refine ⟨va_up S 3 (va_cpy (T 3) (S 3) 0 0 5), rfl, h1, fun b hb => ⟨(h2 b hb).1, (h2 b hb).2.1, ?_⟩, h3, h4, h5⟩
  show va_cpy (T 3) _ 0 0 5 b = _
  have hb' : b < N 0 0 := hb
  rw [q_cpy (by omega)]
  exact hT b hb
theorem t_copy {N : NN} {B : BB} (S : M2) {T : M2} (hT : CS N B T) (hW : WF N B) : ∃ S', fX1_copyFrom S T = some S' ∧ CS N B S' := by
  obtain ⟨⟨h1, h2, h3, h4, h5, h6, h7⟩, h8, h9, h10, h11⟩ := hT
  have w1 := hW.1
  refine ⟨_, rfl, ⟨h1, h2, h3, h4, h5, h6, h7⟩, fun b hb => ⟨?_, ?_, ?_⟩, fun m hm => ⟨?_, ?_, ?_, ?_⟩, fun i hi => ⟨?_, ?_⟩, fun k hk => ⟨?_, fun i b hb => ?_⟩⟩
  · show va_cpy (T 1) _ 0 0 5 b = _
    rw [q_cpy (by omega)]
    exact (h8 b hb).1
  · show va_cpy (T 2) _ 0 0 5 b = _
    rw [q_cpy (by omega)]
    exact (h8 b hb).2.1
  · show va_cpy (T 3) _ 0 0 5 b = _
    rw [q_cpy (by omega)]
    exact (h8 b hb).2.2
  · show va_cpy (T 8) _ 0 0 4 m = _
    rw [q_cpy (by omega)]
    exact (h9 m hm).1
  · show va_cpy (T 9) _ 0 0 4 m = _
    rw [q_cpy (by omega)]
    exact (h9 m hm).2.1
  · show va_cpy (T 10) _ 0 0 4 m = _
    rw [q_cpy (by omega)]
    exact (h9 m hm).2.2.1
  · show va_cpy (T 11) _ 0 0 4 m = _
    rw [q_cpy (by omega)]
    exact (h9 m hm).2.2.2
  · show va_cpy (T 16) _ 0 0 6 i = _
    rw [q_cpy (by omega)]
    exact (h10 i hi).1
  · show va_cpy (T 17) _ 0 0 6 i = _
    rw [q_cpy (by omega)]
    exact (h10 i hi).2
  · show va_cpy (T 6) _ 0 0 3 k = _
    rw [q_cpy (by omega)]
    exact (h11 k hk).1
  · show va_cpy (T 5) _ 0 0 15 (k * 5 + i) = _
    have a1 := l_lt hb
    have a2 := hW.2.2.2.2.le hk
    rw [q_cpy (by omega)]
    exact (h11 k hk).2 i b hb
/-! where a bolt lies -/
theorem t_spot_in {N : NN} {B : BB} {S : M2} (hS : CS N B S) (hW : WF N B) {k b : Nat} (hk : k < 3) (hb5 : b < 5) (kk : Unit → Option Int32) : ∀ (l pre : List Nat) (f : Nat), B k = pre ++ l → l.length < f → (b ∉ l → fX1_spotOf_L9 S (nI b) (nI k) kk f (nI pre.length) = kk ()) ∧ ∀ i, l[i]? = some b → b ∉ l.take i → fX1_spotOf_L9 S (nI b) (nI k) kk f (nI pre.length) = some (nI (k * 5 + (pre.length + i)))
  | [], pre, f + 1, hB, hf => by
    have w1 := hW.1
    have w2 := hW.2.2.2.2.le hk
    have h6 := (hS.2.2.2.2 k hk).1
    simp only [List.append_nil] at hB
    have hl : (B k).length = pre.length := by rw [hB]
    refine ⟨fun _ => ?_, fun i hi => by simp at hi⟩
    simp (disch := omega) only [fX1_spotOf_L9, lt, jn, q_lit, q_bnd, q_cl, q_le, q_lt, q_eq, pk_mul, nI_add, q_sub, q_div, q_pos, q_neg, q_T, q_F, q_max0, q_flg1, q_flg0, q_min, q_min2, q_bit, q_some, h6, hl]
  | c :: l, pre, f + 1, hB, hf => by
    have w1 := hW.1
    have w2 := hW.2.2.2.2.le hk
    have h6 := (hS.2.2.2.2 k hk).1
    have hl : (B k).length = pre.length + (l.length + 1) := by rw [hB]; simp
    have hc : c < N 0 0 := hW.2.2.2.2.lt hk (by rw [hB]; simp)
    have h5' := (hS.2.2.2.2 k hk).2 pre.length c (by rw [hB]; simp)
    obtain ⟨i1, i2⟩ := t_spot_in hS hW hk hb5 kk l (pre ++ [c]) f (by rw [hB]; simp) (by simp at hf; omega)
    rw [List.length_append, List.length_singleton] at i1 i2
    constructor
    · intro hn
      simp only [List.mem_cons, not_or] at hn
      have hne : ¬ c = b := fun e => hn.1 e.symm
      simp (disch := omega) only [fX1_spotOf_L9, lt, jn, q_lit, q_bnd, q_cl, q_le, q_lt, q_eq, pk_mul, nI_add, q_sub, q_div, q_pos, q_neg, q_T, q_F, q_max0, q_flg1, q_flg0, q_min, q_min2, q_bit, q_some, h6, hl, h5', hne]
      exact i1 hn.2
    · intro i hi ht
      match i, hi, ht with
      | 0, hi, ht =>
        simp only [List.getElem?_cons_zero, Option.some.injEq] at hi
        simp (disch := omega) only [fX1_spotOf_L9, lt, jn, q_lit, q_bnd, q_cl, q_le, q_lt, q_eq, pk_mul, nI_add, q_sub, q_div, q_pos, q_neg, q_T, q_F, q_max0, q_flg1, q_flg0, q_min, q_min2, q_bit, q_some, h6, hl, h5', hi, Nat.add_zero]
      | i + 1, hi, ht =>
        simp only [List.getElem?_cons_succ] at hi
        simp only [List.take_succ_cons, List.mem_cons, not_or] at ht
        have hne : ¬ c = b := fun e => ht.1 e.symm
        simp (disch := omega) only [fX1_spotOf_L9, lt, jn, q_lit, q_bnd, q_cl, q_le, q_lt, q_eq, pk_mul, nI_add, q_sub, q_div, q_pos, q_neg, q_T, q_F, q_max0, q_flg1, q_flg0, q_min, q_min2, q_bit, q_some, h6, hl, h5', hne]
        rw [i2 i hi ht.2, show pre.length + 1 + i = pre.length + (i + 1) by omega]
theorem nd_take {l : List Nat} {i b : Nat} (hn : l.Nodup) (h : l[i]? = some b) : b ∉ l.take i := by
  intro hm
  obtain ⟨j, hj⟩ := List.mem_iff_getElem?.mp hm
  have h1 := l_lt hj
  rw [List.length_take] at h1
  rw [List.getElem?_take_of_lt (by omega)] at hj
  have := (List.getElem?_inj (l_lt h) hn).mp (h.trans hj.symm)
  omega
theorem t_spotOf_L {N : NN} {B : BB} {S : M2} (hS : CS N B S) (hW : WF N B) {k b i : Nat} (hk : k < 3) (hb : (B k)[i]? = some b) (kk : Unit → Option Int32) : ∀ (d k' f : Nat), k' + d = k → d < f → fX1_spotOf_L2 S (nI b) kk f (nI k') = some (nI (k * 5 + i))
  | 0, k', f + 1, hd, hf => by
    have e : k' = k := by omega
    subst e
    have w1 := hW.1
    have w2 := hW.2.2.2.2.le hk
    have w3 := hW.2.2.2.2.lt hk (List.mem_of_getElem? hb)
    have := (t_spot_in hS hW (b := b) hk (by omega) (fun _ => lt (nI k' + nI 1) fun x7 => fX1_spotOf_L2 S (nI b) kk f x7) (B k') [] 400 rfl (by omega)).2 i hb (nd_take (hW.2.2.2.2.nodup hk) hb)
    rw [List.length_nil, Nat.zero_add] at this
    rw [← this]
    rw [fX1_spotOf_L2]
    simp (disch := omega) only [q_lit, q_le, q_neg]
  | d + 1, k', f + 1, hd, hf => by
    have w1 := hW.1
    have hk' : k' < 3 := by omega
    have w2 := hW.2.2.2.2.le hk'
    have w3 := hW.2.2.2.2.lt hk (List.mem_of_getElem? hb)
    have w4 : b ∉ B k' := fun h => by
      have := hW.2.2.2.2.uq hk hk' (List.mem_of_getElem? hb) h
      omega
    have := (t_spot_in hS hW (b := b) hk' (by omega) (fun _ => lt (nI k' + nI 1) fun x7 => fX1_spotOf_L2 S (nI b) kk f x7) (B k') [] 400 rfl (by omega)).1 w4
    rw [List.length_nil] at this
    have ih := t_spotOf_L hS hW hk hb kk d (k' + 1) f (by omega) (by omega)
    rw [fX1_spotOf_L2]
    simp (disch := omega) only [q_lit, q_le, q_neg]
    refine this.trans ?_
    simp (disch := omega) only [lt, jn, q_lit, q_bnd, q_cl, q_le, q_lt, q_eq, pk_mul, nI_add, q_sub, q_div, q_pos, q_neg, q_T, q_F, q_max0, q_flg1, q_flg0, q_min, q_min2, q_bit, q_some]
    exact ih
theorem t_spotOf {N : NN} {B : BB} {S : M2} (hS : CS N B S) (hW : WF N B) {k b i : Nat} (hk : k < 3) (hb : (B k)[i]? = some b) : fX1_spotOf (nI b) S = some (nI (k * 5 + i)) :=
  t_spotOf_L hS hW hk hb _ k 0 400 (by omega) (by omega)
theorem t_baleOf {N : NN} {B : BB} {S : M2} (hS : CS N B S) (hW : WF N B) {k b i : Nat} (hk : k < 3) (hb : (B k)[i]? = some b) : fX1_baleOf (nI b) S = some (nI k) := by
  have w1 := hW.1
  have w2 := hW.2.2.2.2.le hk
  have w3 := l_lt hb
  unfold fX1_baleOf
  simp (disch := omega) only [lt, jn, q_lit, q_bnd, q_cl, q_le, q_lt, q_eq, pk_mul, nI_add, q_sub, q_div, q_pos, q_neg, q_T, q_F, q_max0, q_flg1, q_flg0, q_min, q_min2, q_bit, q_some, t_spotOf hS hW hk hb]
  rw [show (k * 5 + i) / 5 = k by omega]
theorem t_layerOf {N : NN} {B : BB} {S : M2} (hS : CS N B S) (hW : WF N B) {k b i : Nat} (hk : k < 3) (hb : (B k)[i]? = some b) : fX1_layerOf (nI b) S = some (nI i) := by
  have w1 := hW.1
  have w2 := hW.2.2.2.2.le hk
  have w3 := l_lt hb
  unfold fX1_layerOf
  simp (disch := omega) only [lt, jn, q_lit, q_bnd, q_cl, q_le, q_lt, q_eq, pk_mul, nI_add, q_sub, q_div, q_pos, q_neg, q_T, q_F, q_max0, q_flg1, q_flg0, q_min, q_min2, q_bit, q_some, t_spotOf hS hW hk hb]
  rw [show k * 5 + i - (k * 5 + i) / 5 * 5 = i by omega]
/-! a bolt is taken out, put in -/
theorem t_out_L {k L : Nat} (hk : k < 3) (hL : L ≤ 4) : ∀ (d j f : Nat) (S : M2), j + d = L → d < f → S 6 k = nI L → ∃ S', fX1_takeOut_L25 (nI k) (fun p => some p) f (nI j) S = some S' ∧ (∀ q, q ≠ 5 → S' q = S q) ∧ ∀ x, S' 5 x = if k * 5 + j ≤ x ∧ x < k * 5 + L then S 5 (x + 1) else S 5 x
  | 0, j, f + 1, S, hd, hf, h6 => by
    refine ⟨S, ?_, fun _ _ => rfl, fun x => ?_⟩
    · simp (disch := omega) only [fX1_takeOut_L25, lt, jn, q_lit, q_bnd, q_cl, q_le, q_lt, q_eq, pk_mul, nI_add, q_sub, q_div, q_pos, q_neg, q_T, q_F, q_max0, q_flg1, q_flg0, q_min, q_min2, q_bit, q_some, h6]
    · rw [if_neg (by omega)]
  | d + 1, j, f + 1, S, hd, hf, h6 => by
    obtain ⟨S', i1, i2, i3⟩ := t_out_L hk hL d (j + 1) f (va_up S 5 (upd (S 5) (k * 5 + j) (S 5 (k * 5 + j + 1)))) (by omega) (by omega) h6
    refine ⟨S', ?_, fun q hq => ?_, fun x => ?_⟩
    · simp (disch := omega) only [fX1_takeOut_L25, lt, jn, q_lit, q_bnd, q_cl, q_le, q_lt, q_eq, pk_mul, nI_add, q_sub, q_div, q_pos, q_neg, q_T, q_F, q_max0, q_flg1, q_flg0, q_min, q_min2, q_bit, q_some, h6]
      exact i1
    · rw [i2 q hq, q_up, if_neg hq]
    · rw [i3 x]
      show (if k * 5 + (j + 1) ≤ x ∧ x < k * 5 + L then upd (S 5) (k * 5 + j) (S 5 (k * 5 + j + 1)) (x + 1) else upd (S 5) (k * 5 + j) (S 5 (k * 5 + j + 1)) x) = _
      rw [q_ud, q_ud]
      by_cases e1 : x = k * 5 + j
      · subst e1
        rw [if_neg (by omega), if_pos rfl, if_pos (by omega)]
      · by_cases e2 : k * 5 + j ≤ x ∧ x < k * 5 + L
        · rw [if_pos (by omega), if_neg (by omega), if_pos e2]
        · rw [if_neg (by omega), if_neg e1, if_neg e2]
theorem t_takeOut {N : NN} {B : BB} {S : M2} (hS : CS N B S) (hW : WF N B) {k b i : Nat} (hk : k < 3) (hb : (B k)[i]? = some b) : ∃ S', fX1_takeOut (nI b) S = some S' ∧ CS N (spTake B k i) S' := by
  have w1 := hW.1
  have w2 := hW.2.2.2.2.le hk
  have w3 := l_lt hb
  have h6 := (hS.2.2.2.2 k hk).1
  have e6 : nI (B k).length - nI 1 = nI ((B k).length - 1) := q_sub (by omega)
  obtain ⟨S', i1, i2, i3⟩ := t_out_L (k := k) (L := (B k).length - 1) hk (by omega) ((B k).length - 1 - i) i 400 (va_up S 6 (upd (S 6) k (nI ((B k).length - 1)))) (by omega) (by omega) (by rw [q_up, if_pos rfl, q_ud, if_pos rfl])
  have e5 : ∀ q, q ≠ 5 → q ≠ 6 → S' q = S q := fun q a1 a2 => by rw [i2 q a1, q_up, if_neg a2]
  refine ⟨S', ?_, ?_⟩
  · unfold fX1_takeOut
    simp (disch := omega) only [lt, jn, q_lit, q_bnd, q_cl, q_le, q_lt, q_eq, pk_mul, nI_add, q_sub, q_div, q_pos, q_neg, q_T, q_F, q_max0, q_flg1, q_flg0, q_min, q_min2, q_bit, q_some, t_spotOf hS hW hk hb]
    rw [show (k * 5 + i) / 5 = k by omega, show k * 5 + i - k * 5 = i by omega]
    simp (disch := omega) only [lt, jn, q_lit, q_bnd, q_cl, q_le, q_lt, q_eq, pk_mul, nI_add, q_sub, q_div, q_pos, q_neg, q_T, q_F, q_max0, q_flg1, q_flg0, q_min, q_min2, q_bit, q_some, h6]
    exact i1
  · obtain ⟨h1, h2, h3, h4, h5⟩ := hS
    refine ⟨?_, ?_, ?_, ?_, fun k' hk' => ⟨?_, fun j c hc => ?_⟩⟩
    · simp only [e5, ne_eq, Nat.reduceEqDiff, not_false_eq_true]
      exact h1
    · simp only [e5, ne_eq, Nat.reduceEqDiff, not_false_eq_true]
      exact h2
    · simp only [e5, ne_eq, Nat.reduceEqDiff, not_false_eq_true]
      exact h3
    · simp only [e5, ne_eq, Nat.reduceEqDiff, not_false_eq_true]
      exact h4
    · rw [i2 6 (by decide), q_up, if_pos rfl, q_ud, spTake, q_up]
      by_cases e : k' = k
      · rw [if_pos e, if_pos e, List.length_eraseIdx, if_pos w3]
      · rw [if_neg e, if_neg e]
        exact (h5 k' hk').1
    · rw [spTake, q_up] at hc
      rw [i3]
      show (if k * 5 + i ≤ k' * 5 + j ∧ k' * 5 + j < k * 5 + ((B k).length - 1) then S 5 (k' * 5 + j + 1) else S 5 (k' * 5 + j)) = _
      have w5 := hW.2.2.2.2.le hk'
      by_cases e : k' = k
      · subst e
        rw [if_pos rfl] at hc
        have w4 := l_lt hc
        rw [List.length_eraseIdx, if_pos w3] at w4
        rw [List.getElem?_eraseIdx] at hc
        by_cases e2 : j < i
        · rw [if_pos e2] at hc
          rw [if_neg (by omega)]
          exact (h5 k' hk').2 j c hc
        · rw [if_neg e2] at hc
          rw [if_pos (by omega), Nat.add_assoc]
          exact (h5 k' hk').2 (j + 1) c hc
      · rw [if_neg e] at hc
        have w4 := l_lt hc
        rw [if_neg (by omega)]
        exact (h5 k' hk').2 j c hc
end
section
theorem t_in_L {k : Nat} (hk : k < 3) (i1 : Int32) : ∀ (v f : Nat) (S : M2), v ≤ 4 → v < f → ∃ S', (∀ kk : M2 → Option M2, fX1_putOnTop_L12 i1 (nI k) kk f (nI v) S = kk S') ∧ (∀ q, q ≠ 5 → S' q = S q) ∧ ∀ x, S' 5 x = if k * 5 + 1 ≤ x ∧ x ≤ k * 5 + v then S 5 (x - 1) else S 5 x
  | 0, f + 1, S, hv, hf => by
    refine ⟨S, fun kk => ?_, fun _ _ => rfl, fun x => ?_⟩
    · simp (disch := omega) only [fX1_putOnTop_L12, lt, jn, q_lit, q_bnd, q_cl, q_le, q_lt, q_eq, pk_mul, nI_add, q_sub, q_div, q_pos, q_neg, q_T, q_F, q_max0, q_flg1, q_flg0, q_min, q_min2, q_bit, q_some]
    · rw [if_neg (by omega)]
  | v + 1, f + 1, S, hv, hf => by
    obtain ⟨S', i1', i2, i3⟩ := t_in_L hk i1 v f (va_up S 5 (upd (S 5) (k * 5 + (v + 1)) (S 5 (k * 5 + v)))) (by omega) (by omega)
    refine ⟨S', fun kk => ?_, fun q hq => ?_, fun x => ?_⟩
    · rw [fX1_putOnTop_L12]
      simp (disch := omega) only [lt, jn, q_lit, q_bnd, q_cl, q_le, q_lt, q_eq, pk_mul, nI_add, q_sub, q_div, q_pos, q_neg, q_T, q_F, q_max0, q_flg1, q_flg0, q_min, q_min2, q_bit, q_some, pk_m1]
      rw [show k * 5 + (v + 1) - 1 = k * 5 + v by omega]
      have e : nI (v + 1) + (-nI 1) = nI v := pk_m1 v
      rw [e]
      exact i1' kk
    · rw [i2 q hq, q_up, if_neg hq]
    · rw [i3 x]
      show (if k * 5 + 1 ≤ x ∧ x ≤ k * 5 + v then upd (S 5) (k * 5 + (v + 1)) (S 5 (k * 5 + v)) (x - 1) else upd (S 5) (k * 5 + (v + 1)) (S 5 (k * 5 + v)) x) = _
      rw [q_ud, q_ud]
      by_cases e1 : x = k * 5 + (v + 1)
      · subst e1
        rw [if_neg (by omega), if_pos rfl, if_pos (by omega)]
        rfl
      · by_cases e2 : k * 5 + 1 ≤ x ∧ x ≤ k * 5 + v
        · rw [if_pos e2, if_neg (by omega), if_pos (by omega)]
        · rw [if_neg e2, if_neg e1, if_neg (by omega)]
/-- a slice that holds N and B holds N and a bale more with b on it, if so -/
theorem CS.top {N : NN} {B : BB} {S S' : M2} {k b : Nat} (hk : k < 3) (hS : CS N B S) (hl : ∀ k, k < 3 → (B k).length ≤ 5) (hl4 : (B k).length ≤ 4) (h0 : ∀ q, q ≠ 5 → q ≠ 6 → S' q = S q) (h6 : S' 6 = upd (S 6) k (nI ((B k).length + 1))) (h5 : ∀ x, S' 5 x = if x = k * 5 then nI b else if k * 5 + 1 ≤ x ∧ x ≤ k * 5 + (B k).length then S 5 (x - 1) else S 5 x) : CS N (spTop B k b) S' := by
  obtain ⟨g1, g2, g3, g4, g5⟩ := hS
  refine ⟨?_, ?_, ?_, ?_, fun k' hk' => ⟨?_, fun j c hc => ?_⟩⟩
  · simp only [h0, ne_eq, Nat.reduceEqDiff, not_false_eq_true]
    exact g1
  · simp only [h0, ne_eq, Nat.reduceEqDiff, not_false_eq_true]
    exact g2
  · simp only [h0, ne_eq, Nat.reduceEqDiff, not_false_eq_true]
    exact g3
  · simp only [h0, ne_eq, Nat.reduceEqDiff, not_false_eq_true]
    exact g4
  · rw [h6, q_ud, spTop, q_up]
    by_cases e : k' = k
    · rw [if_pos e, if_pos e, List.length_cons]
    · rw [if_neg e, if_neg e]
      exact (g5 k' hk').1
  · rw [spTop, q_up] at hc
    rw [h5]
    have w5 := hl k' hk'
    by_cases e : k' = k
    · subst e
      rw [if_pos rfl] at hc
      have w4 := l_lt hc
      rw [List.length_cons] at w4
      match j, hc with
      | 0, hc =>
        simp only [List.getElem?_cons_zero, Option.some.injEq] at hc
        rw [if_pos (Nat.add_zero _), hc]
      | j + 1, hc =>
        simp only [List.getElem?_cons_succ] at hc
        rw [if_neg (by omega), if_pos (by omega)]
        exact (g5 k' hk').2 j c hc
    · rw [if_neg e] at hc
      have w4 := l_lt hc
      rw [if_neg (by omega), if_neg (by omega)]
      exact (g5 k' hk').2 j c hc
theorem CS.bot {N : NN} {B : BB} {S : M2} {k b : Nat} (hk : k < 3) (hS : CS N B S) (hl : ∀ k, k < 3 → (B k).length ≤ 5) (hl4 : (B k).length ≤ 4) : CS N (spBot B k b) (va_up (va_up S 5 (upd (S 5) (k * 5 + (B k).length) (nI b))) 6 (upd (S 6) k (nI ((B k).length + 1)))) := by
  obtain ⟨g1, g2, g3, g4, g5⟩ := hS
  refine ⟨g1, g2, g3, g4, fun k' hk' => ⟨?_, fun j c hc => ?_⟩⟩
  · show upd (S 6) k (nI ((B k).length + 1)) k' = _
    rw [q_ud, spBot, q_up]
    by_cases e : k' = k
    · rw [if_pos e, if_pos e, List.length_append, List.length_singleton]
    · rw [if_neg e, if_neg e]
      exact (g5 k' hk').1
  · show upd (S 5) (k * 5 + (B k).length) (nI b) (k' * 5 + j) = _
    rw [spBot, q_up] at hc
    rw [q_ud]
    have w5 := hl k' hk'
    by_cases e : k' = k
    · subst e
      rw [if_pos rfl, List.getElem?_append] at hc
      by_cases e2 : j < (B k').length
      · rw [if_pos e2] at hc
        rw [if_neg (by omega)]
        exact (g5 k' hk').2 j c hc
      · rw [if_neg e2] at hc
        have e3 : j = (B k').length := by
          have := l_lt hc
          rw [List.length_singleton] at this
          omega
        subst e3
        rw [Nat.sub_self, List.getElem?_cons_zero, Option.some.injEq] at hc
        rw [if_pos rfl, hc]
    · rw [if_neg e] at hc
      have w4 := l_lt hc
      rw [if_neg (by omega)]
      exact (g5 k' hk').2 j c hc
theorem spTake_len {n : Nat} {B : BB} (hB : WB n B) (hn : n ≤ 5) {k i b : Nat} (hk : k < 3) (hb : (B k)[i]? = some b) : ∀ k', k' < 3 → (spTake B k i k').length ≤ 4 := by
  intro k' hk'
  have h1 := hB.len
  have h2 := l_lt hb
  rw [spTake, q_up]
  split
  · rw [List.length_eraseIdx, if_pos h2]
    have := hB.le hk
    omega
  · rename_i e
    rcases wb_cases hk with rfl | rfl | rfl <;> rcases wb_cases hk' with rfl | rfl | rfl <;> first | (exact absurd rfl e) | omega
theorem cnt_out : ∀ (l : List Nat) (i b x : Nat), l[i]? = some b → l.count x = (l.eraseIdx i).count x + if x = b then 1 else 0
  | [], i, b, x, h => by simp at h
  | c :: l, 0, b, x, h => by
    simp only [List.getElem?_cons_zero, Option.some.injEq] at h
    rw [List.eraseIdx_cons_zero, List.count_cons, h]
    by_cases e : x = b
    · simp [e]
    · have e' : ¬ b = x := fun q => e q.symm
      simp [e, e']
  | c :: l, i + 1, b, x, h => by
    simp only [List.getElem?_cons_succ] at h
    rw [List.eraseIdx_cons_succ, List.count_cons, List.count_cons, cnt_out l i b x h]
    omega
theorem WB.move {n : Nat} {B B' : BB} (hB : WB n B) {k k2 i b : Nat} (hk : k < 3) (hk2 : k2 < 3) (hb : (B k)[i]? = some b) (h1 : ∀ x, (B' k2).count x = (spTake B k i k2).count x + if x = b then 1 else 0) (h2 : ∀ k', k' ≠ k2 → B' k' = spTake B k i k') : WB n B' := by
  intro x
  have e0 := hB x
  have e2 := cnt_out _ _ _ x hb
  have key : ∀ k', (B' k').count x + (if k' = k then (if x = b then 1 else 0) else 0) = (B k').count x + (if k' = k2 then (if x = b then 1 else 0) else 0) := by
    intro k'
    have e3 : (spTake B k i k').count x + (if k' = k then (if x = b then 1 else 0) else 0) = (B k').count x := by
      rw [spTake, q_up]
      by_cases e : k' = k
      · rw [if_pos e, if_pos e, e, e2]
      · rw [if_neg e, if_neg e, Nat.add_zero]
    by_cases e : k' = k2
    · rw [if_pos e, ← e3, e, h1 x]
      omega
    · rw [if_neg e, h2 k' e, e3, Nat.add_zero]
  have a0 := key 0
  have a1 := key 1
  have a2 := key 2
  rcases wb_cases hk with rfl | rfl | rfl <;> rcases wb_cases hk2 with rfl | rfl | rfl <;> simp only [Nat.reduceEqDiff, if_true, if_false, reduceCtorEq, ↓reduceIte, Nat.one_ne_zero, Nat.zero_ne_one ] at a0 a1 a2 <;> omega
theorem WB.top {n : Nat} {B : BB} (hB : WB n B) {k k2 i b : Nat} (hk : k < 3) (hk2 : k2 < 3) (hb : (B k)[i]? = some b) : WB n (spTop (spTake B k i) k2 b) := by
  refine hB.move hk hk2 hb (fun x => ?_) (fun k' h => ?_)
  · rw [spTop, q_up, if_pos rfl, List.count_cons]
    by_cases e : x = b
    · simp [e]
    · have e' : ¬ b = x := fun q => e q.symm
      simp [e, e']
  · rw [spTop, q_up, if_neg h]
theorem WB.bot {n : Nat} {B : BB} (hB : WB n B) {k k2 i b : Nat} (hk : k < 3) (hk2 : k2 < 3) (hb : (B k)[i]? = some b) : WB n (spBot (spTake B k i) k2 b) := by
  refine hB.move hk hk2 hb (fun x => ?_) (fun k' h => ?_)
  · rw [spBot, q_up, if_pos rfl, List.count_append, List.count_singleton]
    by_cases e : x = b
    · simp [e]
    · have e' : ¬ b = x := fun q => e q.symm
      simp [e, e']
  · rw [spBot, q_up, if_neg h]
theorem WF.bb {N : NN} {B B' : BB} (h : WF N B) (hB : WB (N 0 0) B') : WF N B' := ⟨h.1, h.2.1, h.2.2.1, h.2.2.2.1, hB⟩
theorem t_putOnTop {N : NN} {B : BB} {S : M2} (hS : CS N B S) (hW : WF N B) {k k2 b i : Nat} (hk : k < 3) (hk2 : k2 < 3) (hb : (B k)[i]? = some b) : ∃ S', fX1_putOnTop (nI b) (nI k2) S = some S' ∧ CS N (spTop (spTake B k i) k2 b) S' ∧ WF N (spTop (spTake B k i) k2 b) := by
  obtain ⟨S1, i1, i2⟩ := t_takeOut hS hW hk hb
  have hl := spTake_len hW.2.2.2.2 hW.1.1 hk hb
  have h6 := (i2.2.2.2.2 k2 hk2).1
  have hl2 := hl k2 hk2
  obtain ⟨S2, j1, j2, j3⟩ := t_in_L hk2 (nI b) ((spTake B k i k2).length) 400 S1 hl2 (by omega)
  refine ⟨va_up (va_up S2 5 (upd (S2 5) (k2 * 5) (nI b))) 6 (upd (S2 6) k2 (nI ((spTake B k i k2).length + 1))), ?_, ?_, hW.bb (hW.2.2.2.2.top hk hk2 hb)⟩
  · unfold fX1_putOnTop
    simp (disch := omega) only [lt, jn, q_lit, q_bnd, q_cl, q_le, q_lt, q_eq, pk_mul, nI_add, q_sub, q_div, q_pos, q_neg, q_T, q_F, q_max0, q_flg1, q_flg0, q_min, q_min2, q_bit, q_some, i1, h6, j1]
    have e6 : va_up S2 5 (upd (S2 5) (k2 * 5) (nI b)) 6 = S2 6 := rfl
    rw [e6, j2 6 (by decide), h6]
    simp (disch := omega) only [lt, jn, q_lit, q_bnd, q_cl, q_le, q_lt, q_eq, pk_mul, nI_add, q_sub, q_div, q_pos, q_neg, q_T, q_F, q_max0, q_flg1, q_flg0, q_min, q_min2, q_bit, q_some]
  · refine CS.top hk2 i2 (fun k' hk' => by have := hl k' hk'; omega) hl2 (fun q a1 a2 => ?_) ?_ (fun x => ?_)
    · rw [q_up, if_neg a2, q_up, if_neg a1, j2 q a1]
    · rw [q_up, if_pos rfl, j2 6 (by decide)]
    · show upd (S2 5) (k2 * 5) (nI b) x = _
      rw [q_ud, j3 x]
theorem t_under {N : NN} {B : BB} {S : M2} (hS : CS N B S) (hW : WF N B) {k k2 b i : Nat} (hk : k < 3) (hk2 : k2 < 3) (hb : (B k)[i]? = some b) : ∃ S1 S', fX1_takeOut (nI b) S = some S1 ∧ fX1_putBelow (nI b) (nI k2) S1 = some S' ∧ CS N (spBot (spTake B k i) k2 b) S' ∧ WF N (spBot (spTake B k i) k2 b) := by
  obtain ⟨S1, i1, i2⟩ := t_takeOut hS hW hk hb
  have hl := spTake_len hW.2.2.2.2 hW.1.1 hk hb
  have h6 := (i2.2.2.2.2 k2 hk2).1
  have hl2 := hl k2 hk2
  refine ⟨S1, _, i1, ?_, CS.bot hk2 i2 (fun k' hk' => by have := hl k' hk'; omega) hl2, hW.bb (hW.2.2.2.2.bot hk hk2 hb)⟩
  unfold fX1_putBelow
  simp (disch := omega) only [lt, jn, q_lit, q_bnd, q_cl, q_le, q_lt, q_eq, pk_mul, nI_add, q_sub, q_div, q_pos, q_neg, q_T, q_F, q_max0, q_flg1, q_flg0, q_min, q_min2, q_bit, q_some, h6]
  have e6 : va_up S1 5 (upd (S1 5) (k2 * 5 + (spTake B k i k2).length) (nI b)) 6 = S1 6 := rfl
  rw [e6, h6]
  simp (disch := omega) only [lt, jn, q_lit, q_bnd, q_cl, q_le, q_lt, q_eq, pk_mul, nI_add, q_sub, q_div, q_pos, q_neg, q_T, q_F, q_max0, q_flg1, q_flg0, q_min, q_min2, q_bit, q_some]
end
section
/-! the model's row 'at' -/
theorem MS.ext {N : NN} {B : BB} {r r' : Nat → Int32} (h : MS N B r) (hW : WF N B) (he : ∀ x, x < 62 → r' x = r x) : MS N B r' := by
  obtain ⟨⟨a1, a2, a3, a4⟩, h2, h3, h4, h5⟩ := h
  have w1 := hW.1
  refine ⟨⟨?_, ?_, ?_, ?_⟩, fun b hb => ⟨?_, ?_, ?_, ?_⟩, fun m hm => ⟨?_, ?_, ?_, ?_⟩, fun i hi => ⟨?_, ?_⟩, fun k hk i b hb => ⟨?_, ?_⟩⟩
  · rw [he _ (by omega)]; exact a1
  · rw [he _ (by omega)]; exact a2
  · rw [he _ (by omega)]; exact a3
  · rw [he _ (by omega)]; exact a4
  · rw [he _ (by omega)]; exact (h2 b hb).1
  · rw [he _ (by omega)]; exact (h2 b hb).2.1
  · rw [he _ (by omega)]; exact (h2 b hb).2.2.1
  · rw [he _ (by omega)]; exact (h2 b hb).2.2.2
  · rw [he _ (by omega)]; exact (h3 m hm).1
  · rw [he _ (by omega)]; exact (h3 m hm).2.1
  · rw [he _ (by omega)]; exact (h3 m hm).2.2.1
  · rw [he _ (by omega)]; exact (h3 m hm).2.2.2
  · rw [he _ (by omega)]; exact (h4 i hi).1
  · rw [he _ (by omega)]; exact (h4 i hi).2
  · have := hW.2.2.2.2.lt hk (List.mem_of_getElem? hb)
    rw [he _ (by omega)]; exact (h5 k hk i b hb).1
  · have := hW.2.2.2.2.lt hk (List.mem_of_getElem? hb)
    rw [he _ (by omega)]; exact (h5 k hk i b hb).2
theorem m_starts_L : ∀ (d j f : Nat) (S : M2), j + d = 62 → d < f → ∃ S', (∀ kk : M2 → Option M2, fX5_starts_L2 kk f (nI j) S = kk S') ∧ (∀ q, q ≠ 1 → S' q = S q) ∧ ∀ x, S' 1 x = if j ≤ x ∧ x < 62 then S 0 x else S 1 x
  | 0, j, f + 1, S, hd, hf => by
    refine ⟨S, fun kk => ?_, fun _ _ => rfl, fun x => ?_⟩
    · simp (disch := omega) only [fX5_starts_L2, lt, jn, q_lit, q_bnd, q_cl, q_le, q_lt, q_eq, pk_mul, nI_add, q_sub, q_div, q_pos, q_neg, q_T, q_F, q_max0, q_flg1, q_flg0, q_min, q_min2, q_bit, q_some]
    · rw [if_neg (by omega)]
  | d + 1, j, f + 1, S, hd, hf => by
    obtain ⟨S', i1, i2, i3⟩ := m_starts_L d (j + 1) f (va_up S 1 (upd (S 1) j (S 0 j))) (by omega) (by omega)
    refine ⟨S', fun kk => ?_, fun q hq => ?_, fun x => ?_⟩
    · simp (disch := omega) only [fX5_starts_L2, lt, jn, q_lit, q_bnd, q_cl, q_le, q_lt, q_eq, pk_mul, nI_add, q_sub, q_div, q_pos, q_neg, q_T, q_F, q_max0, q_flg1, q_flg0, q_min, q_min2, q_bit, q_some, i1]
    · rw [i2 q hq, q_up, if_neg hq]
    · rw [i3]
      show (if j + 1 ≤ x ∧ x < 62 then S 0 x else upd (S 1) j (S 0 j) x) = _
      rw [q_ud]
      by_cases e1 : x = j
      · subst e1
        rw [if_neg (by omega), if_pos rfl, if_pos (by omega)]
      · by_cases e2 : j ≤ x ∧ x < 62
        · rw [if_pos (by omega), if_pos e2]
        · rw [if_neg (by omega), if_neg e1, if_neg e2]
/-- what the model's state is while a try runs: as S0 but for 'at' -/
def ME (S0 S : M2) : Prop := ∀ k, k ≠ 1 → S k = S0 k
theorem m_starts {N : NN} {B : BB} {S0 S : M2} (hS : ME S0 S) (h3 : S0 3 0 = nI (N 0 0)) (h4 : S0 4 0 = nI (N 7 0)) (hm : MS N B (S0 0)) (hW : WF N B) : ∃ S', fX5_starts S = some S' ∧ MA N B S0 S' := by
  obtain ⟨S', i1, i2, i3⟩ := m_starts_L 62 0 400 S (by omega) (by omega)
  refine ⟨S', i1 _, fun k hk => (i2 k hk).trans (hS k hk), h3, h4, hm.ext hW fun x hx => ?_⟩
  rw [i3, if_pos (by omega), hS 0 (by decide)]
theorem m_settles_L : ∀ (d j f : Nat) (S : M2), j + d = 62 → d < f → ∃ S', (∀ kk : M2 → Option M2, fX5_settles_L2 kk f (nI j) S = kk S') ∧ (∀ q, q ≠ 0 → S' q = S q) ∧ ∀ x, S' 0 x = if j ≤ x ∧ x < 62 then S 1 x else S 0 x
  | 0, j, f + 1, S, hd, hf => by
    refine ⟨S, fun kk => ?_, fun _ _ => rfl, fun x => ?_⟩
    · simp (disch := omega) only [fX5_settles_L2, lt, jn, q_lit, q_bnd, q_cl, q_le, q_lt, q_eq, pk_mul, nI_add, q_sub, q_div, q_pos, q_neg, q_T, q_F, q_max0, q_flg1, q_flg0, q_min, q_min2, q_bit, q_some]
    · rw [if_neg (by omega)]
  | d + 1, j, f + 1, S, hd, hf => by
    obtain ⟨S', i1, i2, i3⟩ := m_settles_L d (j + 1) f (va_up S 0 (upd (S 0) j (S 1 j))) (by omega) (by omega)
    refine ⟨S', fun kk => ?_, fun q hq => ?_, fun x => ?_⟩
    · simp (disch := omega) only [fX5_settles_L2, lt, jn, q_lit, q_bnd, q_cl, q_le, q_lt, q_eq, pk_mul, nI_add, q_sub, q_div, q_pos, q_neg, q_T, q_F, q_max0, q_flg1, q_flg0, q_min, q_min2, q_bit, q_some, i1]
    · rw [i2 q hq, q_up, if_neg hq]
    · rw [i3]
      show (if j + 1 ≤ x ∧ x < 62 then S 1 x else upd (S 0) j (S 1 j) x) = _
      rw [q_ud]
      by_cases e1 : x = j
      · subst e1
        rw [if_neg (by omega), if_pos rfl, if_pos (by omega)]
      · by_cases e2 : j ≤ x ∧ x < 62
        · rw [if_pos (by omega), if_pos e2]
        · rw [if_neg (by omega), if_neg e1, if_neg e2]
/-- what is tried becomes what is -/
theorem m_settles {N : NN} {B : BB} {S0 S : M2} (hS : MA N B S0 S) (hW : WF N B) : ∃ S', fX5_settles S = some S' ∧ (∀ q, q ≠ 0 → q ≠ 1 → S' q = S0 q) ∧ MS N B (S' 0) ∧ MS N B (S' 1) ∧ ∀ x, 62 ≤ x → S' 0 x = S0 0 x := by
  obtain ⟨S', i1, i2, i3⟩ := m_settles_L 62 0 400 S (by omega) (by omega)
  refine ⟨S', i1 _, fun q h0 h1 => (i2 q h0).trans (hS.1 q h1), hS.2.2.2.ext hW fun x hx => ?_, ?_, fun x hx => ?_⟩
  · rw [i3, if_pos (by omega)]
  · rw [i2 1 (by decide)]
    exact hS.2.2.2
  · rw [i3, if_neg (by omega), hS.1 0 (by decide)]
theorem m_isBolt {S T : M2} (h : S 3 0 = T 0 0) (x : Int32) : fX5_isBolt x S = fX1_hasBolt x T := by
  unfold fX5_isBolt fX1_hasBolt
  rw [q_inB, h]
  rfl
theorem m_isMoth {S T : M2} (h : S 4 0 = T 7 0) (x : Int32) : fX5_isMoth x S = fX1_hasMoth x T := by
  unfold fX5_isMoth fX1_hasMoth
  rw [q_inB, h]
  rfl
theorem m_isBale (x : Int32) : fX5_isBale x = fX4_isBale x := by
  unfold fX5_isBale fX4_isBale
  rw [q_in_0_2]
  rfl
theorem m_isPart (x : Int32) : fX5_isPart x = (fX4_within x (nI 0) (nI 1)).bind fun r => zb r (some r) := by
  unfold fX5_isPart
  rw [q_in_0_1]
theorem m_lies_L {S : M2} {n k : Nat} (h3 : S 3 0 = nI n) (hn : n ≤ 5) {c : Nat → Bool} (hc : ∀ b, b < n → (S 1 (6 * b + 4) = nI k) = (c b = true)) (kk : Int32 → Option Int32) : ∀ d b f : Nat, b + d = n → d < f → fX5_liesIn_L4 S (nI k) kk f (nI (spSum (fun b => (c b).toNat) b)) (nI b) = kk (nI (spSum (fun b => (c b).toNat) n))
  | 0, b, f + 1, hb, hf => by
    have e : b = n := by omega
    simp (disch := omega) only [fX5_liesIn_L4, lt, jn, q_lit, q_bnd, q_cl, q_le, q_lt, q_eq, pk_mul, nI_add, q_sub, q_div, q_pos, q_neg, q_T, q_F, q_max0, q_flg1, q_flg0, q_min, q_min2, q_bit, q_some, h3, e]
  | d + 1, b, f + 1, hb, hf => by
    have h1 : b < n := by omega
    have ih := m_lies_L h3 hn hc kk d (b + 1) f (by omega) (by omega)
    rw [spSum] at ih
    simp (disch := omega) only [fX5_liesIn_L4, fX5_of, lt, jn, q_lit, q_bnd, q_cl, q_le, q_lt, q_eq, pk_mul, nI_add, q_sub, q_div, q_pos, q_neg, q_T, q_F, q_max0, q_flg1, q_flg0, q_min, q_min2, q_bit, q_some, h3, hc b h1]
    by_cases e : c b = true
    · rw [if_pos e]
      rw [e] at ih
      exact ih
    · have e' : c b = false := by simpa using e
      rw [if_neg e]
      rw [e'] at ih
      exact ih
theorem sum_count (n : Nat) : ∀ (l : List Nat), (∀ x, x ∈ l → x < n) → spSum (fun b => l.count b) n = l.length := by
  intro l
  induction l with
  | nil =>
    intro _
    have : ∀ n, spSum (fun b => ([] : List Nat).count b) n = 0 := by
      intro n
      induction n with
      | zero => rfl
      | succ n ih => rw [spSum, ih]; rfl
    exact this n
  | cons c l ih =>
    intro h
    rw [List.length_cons, ← ih fun x hx => h x (List.mem_cons_of_mem _ hx)]
    have hc := h c List.mem_cons_self
    have : ∀ m, spSum (fun b => (c :: l).count b) m = spSum (fun b => l.count b) m + if c < m then 1 else 0 := by
      intro m
      induction m with
      | zero => rfl
      | succ m ih =>
        rw [spSum, spSum, ih, List.count_cons]
        by_cases e : c = m
        · subst e
          simp
          omega
        · by_cases e2 : c < m
          · have e3 : c < m + 1 := by omega
            simp [e, e2, e3]
            omega
          · have e3 : ¬ c < m + 1 := by omega
            simp [e, e2, e3]
    rw [this, if_pos hc]
theorem sum_congr {f g : Nat → Nat} : ∀ {n : Nat}, (∀ b, b < n → f b = g b) → spSum f n = spSum g n
  | 0, _ => rfl
  | n + 1, h => by rw [spSum, spSum, sum_congr fun b hb => h b (by omega), h n (by omega)]
theorem MA.bale {N : NN} {B : BB} {S0 S : M2} (hS : MA N B S0 S) (hW : WF N B) {k b : Nat} (hk : k < 3) (hb : b < N 0 0) : (S 1 (6 * b + 4) = nI k) = (decide (b ∈ B k) = true) := by
  obtain ⟨k', i, hk', hi⟩ := hW.2.2.2.2.ex hb
  rw [(hS.2.2.2.2.2.2.2 k' hk' i b hi).1, q_eq (by omega), decide_eq_true_eq]
  refine propext ⟨fun e => e ▸ List.mem_of_getElem? hi, fun e => hW.2.2.2.2.uq hk' hk (List.mem_of_getElem? hi) e⟩
theorem MA.n {N : NN} {B : BB} {S0 S : M2} (hS : MA N B S0 S) : S 3 0 = nI (N 0 0) := by rw [hS.1 3 (by decide)]; exact hS.2.1
theorem MA.m {N : NN} {B : BB} {S0 S : M2} (hS : MA N B S0 S) : S 4 0 = nI (N 7 0) := by rw [hS.1 4 (by decide)]; exact hS.2.2.1
theorem m_lies {N : NN} {B : BB} {S0 S : M2} (hS : MA N B S0 S) (hW : WF N B) {k : Nat} (hk : k < 3) : fX5_liesIn (nI k) S = some (nI (B k).length) := by
  have w1 := hW.1
  have := m_lies_L hS.n w1.1 (fun b hb => hS.bale hW hk hb) (fun p => some p) (N 0 0) 0 400 (by omega) (by omega)
  refine this.trans ?_
  rw [sum_congr (g := fun b => (B k).count b) (fun b hb => ?_), sum_count _ _ fun x hx => hW.2.2.2.2.lt hk hx]
  have h1 := hW.2.2.2.2.nodup hk
  rw [h1.count]
  by_cases e : b ∈ B k <;> simp [e]
theorem m_boltAt_L {S : M2} {n k i b : Nat} (h3 : S 3 0 = nI n) (hn : n ≤ 5) (hb : ∀ c, c < n → (S 1 (6 * c + 4) = nI k ∧ S 1 (6 * c + 5) = nI i ↔ c = b)) (kk : Int32 → Option Int32) : ∀ (d c f : Nat) (v : Int32), c + d = n → d < f → fX5_boltAt_L6 S (nI k) (nI i) kk f v (nI c) = kk (if c ≤ b ∧ b < n then nI b else v)
  | 0, c, f + 1, v, hd, hf => by
    have e : c = n := by omega
    rw [if_neg (by omega)]
    simp (disch := omega) only [fX5_boltAt_L6, lt, jn, q_lit, q_bnd, q_cl, q_le, q_lt, q_eq, pk_mul, nI_add, q_sub, q_div, q_pos, q_neg, q_T, q_F, q_max0, q_flg1, q_flg0, q_min, q_min2, q_bit, q_some, h3, e]
  | d + 1, c, f + 1, v, hd, hf => by
    have h1 : c < n := by omega
    have h2 := hb c h1
    have ih := fun v => m_boltAt_L h3 hn hb kk d (c + 1) f v (by omega) (by omega)
    simp (disch := omega) only [fX5_boltAt_L6, fX5_of, lt, jn, q_lit, q_bnd, q_cl, q_le, q_lt, q_eq, pk_mul, nI_add, q_sub, q_div, q_pos, q_neg, q_T, q_F, q_max0, q_flg1, q_flg0, q_min, q_min2, q_bit, q_some, h3, ih]
    by_cases e1 : S 1 (6 * c + 4) = nI k
    · by_cases e2 : S 1 (6 * c + 5) = nI i
      · have e := h2.mp ⟨e1, e2⟩
        subst e
        rw [if_pos e1, if_pos e2, if_neg (by omega), if_pos (by omega)]
      · have e : ¬ c = b := fun q => e2 (h2.mpr q).2
        rw [if_pos e1, if_neg e2]
        by_cases e3 : c ≤ b ∧ b < n
        · rw [if_pos (by omega), if_pos e3]
        · rw [if_neg (by omega), if_neg e3]
    · have e : ¬ c = b := fun q => e1 (h2.mpr q).1
      rw [if_neg e1]
      by_cases e3 : c ≤ b ∧ b < n
      · rw [if_pos (by omega), if_pos e3]
      · rw [if_neg (by omega), if_neg e3]
theorem m_boltAt {N : NN} {B : BB} {S0 S : M2} (hS : MA N B S0 S) (hW : WF N B) {k i b : Nat} (hk : k < 3) (hb : (B k)[i]? = some b) : fX5_boltAt (nI k) (nI i) S = some (nI b) := by
  have w1 := hW.1
  have w2 := hW.2.2.2.2.lt hk (List.mem_of_getElem? hb)
  have w3 := l_lt hb
  have w4 := hW.2.2.2.2.le hk
  have := m_boltAt_L (S := S) (n := N 0 0) (k := k) (i := i) (b := b) hS.n w1.1 (fun c hc => ?_) (fun p => some p) (N 0 0) 0 400 (-4) (by omega) (by omega)
  · rw [if_pos (by omega)] at this
    exact this
  · obtain ⟨k', i', hk', hi'⟩ := hW.2.2.2.2.ex hc
    have w5 := l_lt hi'
    have w6 := hW.2.2.2.2.le hk'
    rw [(hS.2.2.2.2.2.2.2 k' hk' i' c hi').1, (hS.2.2.2.2.2.2.2 k' hk' i' c hi').2, q_eq (by omega), q_eq (by omega)]
    constructor
    · rintro ⟨rfl, rfl⟩
      rw [hi'] at hb
      exact Option.some.inj hb
    · rintro rfl
      exact hW.2.2.2.2.at hk' hk hi' hb
theorem m_boltNo {N : NN} {B : BB} {S0 S : M2} (hS : MA N B S0 S) (hW : WF N B) {k i : Nat} (hk : k < 3) (hi : i < 2 ^ 30) (hb : (B k)[i]? = none) : fX5_boltAt (nI k) (nI i) S = some (-4) := by
  have w1 := hW.1
  have := m_boltAt_L (S := S) (n := N 0 0) (k := k) (i := i) (b := N 0 0) hS.n w1.1 (fun c hc => ?_) (fun p => some p) (N 0 0) 0 400 (-4) (by omega) (by omega)
  · rw [if_neg (by omega)] at this
    exact this
  · obtain ⟨k', i', hk', hi'⟩ := hW.2.2.2.2.ex hc
    have w5 := l_lt hi'
    have w6 := hW.2.2.2.2.le hk'
    rw [(hS.2.2.2.2.2.2.2 k' hk' i' c hi').1, (hS.2.2.2.2.2.2.2 k' hk' i' c hi').2, q_eq (by omega), q_eq (by omega)]
    constructor
    · rintro ⟨rfl, rfl⟩
      rw [hi'] at hb
      cases hb
    · intro e
      omega
end
section
theorem q_eq0 {a b : Nat} (h : a < 2 ^ 30 ∧ b < 2 ^ 30) : (nI a - nI b = nI 0) = (a = b) := by
  refine propext ⟨fun e => ?_, fun e => by rw [e]; exact Int32.sub_self _⟩
  have := congrArg Int32.toInt e
  rw [pk_sub_toInt h.1 h.2, nI_toInt (by decide)] at this
  omega
theorem q_in11 {a b : Nat} (h : a < 2 ^ 30 ∧ b < 2 ^ 30) : fX5_in (nI a - nI b).toInt64 (-1) 1 = some (nI (decide (a ≤ b + 1 ∧ b ≤ a + 1)).toNat) := by
  have e1 : (-1 : Int64) = (-1 : Int32).toInt64 := by decide
  have e2 : (1 : Int64) = (1 : Int32).toInt64 := by decide
  rw [e1, e2, q_in5]
  unfold fX4_within
  simp only [Int32.lt_iff_toInt_lt]
  rw [pk_sub_toInt h.1 h.2]
  have e3 : (-1 : Int32).toInt = -1 := by decide
  have e4 : (1 : Int32).toInt = 1 := by decide
  rw [e3, e4]
  by_cases h1 : (a : Int) - b < -1
  · rw [if_pos h1, decide_eq_false (by omega)]
    rfl
  · rw [if_neg h1]
    by_cases h2 : (1 : Int) < a - b
    · rw [if_pos h2, decide_eq_false (by omega)]
      rfl
    · rw [if_neg h2, decide_eq_true (by omega)]
      rfl
theorem m_appetite {N : NN} {B : BB} {S0 S : M2} (hS : MA N B S0 S) (hW : WF N B) {m : Nat} (hm : m < N 7 0) : fX5_appetite (nI m) S = some (nI (spApp N m)) := by
  obtain ⟨h8, h9, h10, h11⟩ := hS.2.2.2.2.2.1 m hm
  obtain ⟨b8, b9, b10, b11⟩ := hW.2.2.1 m hm
  have w1 := hW.1
  have h12 := hS.2.2.2.1.1
  unfold spApp
  by_cases e1 : N 8 m = 1
  · by_cases e2 : N 10 m + N 12 0 = 0
    · have a1 : N 10 m = 0 := by omega
      have a2 : N 12 0 = 0 := by omega
      simp (disch := omega) only [fX5_appetite, fX5_mothOf, lt, jn, q_lit, q_bnd, q_cl, q_le, q_lt, q_eq, pk_mul, nI_add, q_sub, q_div, q_pos, q_neg, q_T, q_F, q_max0, q_flg1, q_flg0, q_min, q_min2, q_bit, q_some, h8, h10, h12, e1, a1, a2, Nat.add_zero]
    · simp (disch := omega) only [fX5_appetite, fX5_mothOf, lt, jn, q_lit, q_bnd, q_cl, q_le, q_lt, q_eq, pk_mul, nI_add, q_sub, q_div, q_pos, q_neg, q_T, q_F, q_max0, q_flg1, q_flg0, q_min, q_min2, q_bit, q_some, h8, h10, h12, e1, Nat.add_zero]
  · by_cases e2 : N 8 m = 2
    · simp (disch := omega) only [fX5_appetite, fX5_mothOf, lt, jn, q_lit, q_bnd, q_cl, q_le, q_lt, q_eq, pk_mul, nI_add, q_sub, q_div, q_pos, q_neg, q_T, q_F, q_max0, q_flg1, q_flg0, q_min, q_min2, q_bit, q_some, h8, h10, h12, e2, Nat.add_zero]
    · by_cases e3 : N 8 m = 3
      · simp (disch := omega) only [fX5_appetite, fX5_mothOf, lt, jn, q_lit, q_bnd, q_cl, q_le, q_lt, q_eq, pk_mul, nI_add, q_sub, q_div, q_pos, q_neg, q_T, q_F, q_max0, q_flg1, q_flg0, q_min, q_min2, q_bit, q_some, h8, h10, h12, e3, Nat.add_zero]
      · simp (disch := omega) only [fX5_appetite, fX5_mothOf, lt, jn, q_lit, q_bnd, q_cl, q_le, q_lt, q_eq, pk_mul, nI_add, q_sub, q_div, q_pos, q_neg, q_T, q_F, q_max0, q_flg1, q_flg0, q_min, q_min2, q_bit, q_some, h8, h10, h12, Nat.add_zero]
theorem m_likes {N : NN} {B : BB} {S0 S : M2} (hS : MA N B S0 S) (hW : WF N B) {m b : Nat} (hm : m < N 7 0) (hb : b < N 0 0) : fX5_doesLike (nI m) (nI b) S = some (nI (spLik N m b).toNat) := by
  obtain ⟨h8, h9, h10, h11⟩ := hS.2.2.2.2.2.1 m hm
  obtain ⟨b8, b9, b10, b11⟩ := hW.2.2.1 m hm
  obtain ⟨g1, g2, g3, g4⟩ := hS.2.2.2.2.1 b hb
  obtain ⟨c1, c2, c3⟩ := hW.2.1 b hb
  have w1 := hW.1
  unfold spLik
  by_cases e1 : N 8 m = 1
  · simp (disch := omega) only [fX5_doesLike, fX5_of, fX5_mothOf, lt, jn, q_lit, q_bnd, q_cl, q_le, q_lt, q_eq, pk_mul, nI_add, q_sub, q_div, q_pos, q_neg, q_T, q_F, q_max0, q_flg1, q_flg0, q_min, q_min2, q_bit, q_some, h8, h9, g1, e1, Nat.add_zero, q_eq0]
    by_cases e2 : N 1 b = N 9 m
    · simp (disch := omega) only [q_T, e2, decide_true, Bool.toNat_true]
    · simp (disch := omega) only [q_F, e2, decide_false, Bool.toNat_false]
  · by_cases e2 : N 8 m = 2
    · simp (disch := omega) only [fX5_doesLike, fX5_of, fX5_mothOf, lt, jn, q_lit, q_bnd, q_cl, q_le, q_lt, q_eq, pk_mul, nI_add, q_sub, q_div, q_pos, q_neg, q_T, q_F, q_max0, q_flg1, q_flg0, q_min, q_min2, q_bit, q_some, h8, h9, g1, e2, Nat.add_zero, Bool.toNat_true]
    · unfold fX5_doesLike
      simp (disch := omega) only [fX5_of, fX5_mothOf, lt, jn, q_lit, q_bnd, q_cl, q_le, q_lt, q_eq, pk_mul, nI_add, q_sub, q_div, q_pos, q_neg, q_T, q_F, q_max0, q_flg1, q_flg0, q_min, q_min2, q_bit, q_some, h8, h9, g1, Nat.add_zero, q_in11, q_b0, q_tf, q_fl]
theorem MA.holes {N : NN} {B : BB} {S0 S : M2} {h : Nat → Nat} (hS : MA (va_up N 3 h) B S0 S) (hW : WF (va_up N 3 h) B) {b v : Nat} (hb : b < N 0 0) : MA (va_up N 3 (va_up h b v)) B S0 (va_up S 1 (upd (S 1) (6 * b + 2) (nI v))) := by
  obtain ⟨h0, h3, h4, ⟨a1, a2, a3, a4⟩, h5, h6, h7, h8⟩ := hS
  have w1 : N 0 0 ≤ 5 := hW.1.1
  have w2 : N 7 0 ≤ 4 := hW.1.2.1
  have w3 : N 15 0 ≤ 6 := hW.1.2.2.2.2.2.2
  refine ⟨fun k hk => by rw [q_up, if_neg hk]; exact h0 k hk, h3, h4, ⟨?_, ?_, ?_, ?_⟩, fun b' hb' => ⟨?_, ?_, ?_, ?_⟩, fun m hm => ⟨?_, ?_, ?_, ?_⟩, fun i hi => ⟨?_, ?_⟩, fun k hk i c hc => ⟨?_, ?_⟩⟩
  · rw [q_up, if_pos rfl, q_ud, if_neg (by omega)]; exact a1
  · rw [q_up, if_pos rfl, q_ud, if_neg (by omega)]; exact a2
  · rw [q_up, if_pos rfl, q_ud, if_neg (by omega)]; exact a3
  · rw [q_up, if_pos rfl, q_ud, if_neg (by omega)]; exact a4
  · rw [q_up, if_pos rfl, q_ud, if_neg (by omega)]; exact (h5 b' hb').1
  · rw [q_up, if_pos rfl, q_ud, if_neg (by omega)]; exact (h5 b' hb').2.1
  · rw [q_up, if_pos rfl, q_ud]
    show _ = nI (va_up h b v b')
    rw [q_up]
    by_cases e : b' = b
    · rw [if_pos (by omega), if_pos e]
    · rw [if_neg (by omega), if_neg e]
      exact (h5 b' hb').2.2.1
  · rw [q_up, if_pos rfl, q_ud, if_neg (by omega)]; exact (h5 b' hb').2.2.2
  · rw [q_up, if_pos rfl, q_ud, if_neg (by omega)]; exact (h6 m hm).1
  · rw [q_up, if_pos rfl, q_ud, if_neg (by omega)]; exact (h6 m hm).2.1
  · rw [q_up, if_pos rfl, q_ud, if_neg (by omega)]; exact (h6 m hm).2.2.1
  · rw [q_up, if_pos rfl, q_ud, if_neg (by omega)]; exact (h6 m hm).2.2.2
  · rw [q_up, if_pos rfl, q_ud, if_neg (by omega)]; exact (h7 i hi).1
  · rw [q_up, if_pos rfl, q_ud, if_neg (by omega)]; exact (h7 i hi).2
  · rw [q_up, if_pos rfl, q_ud, if_neg (by omega)]; exact (h8 k hk i c hc).1
  · rw [q_up, if_pos rfl, q_ud, if_neg (by omega)]; exact (h8 k hk i c hc).2
theorem WF.eat {N : NN} {B : BB} {m : Nat} : ∀ (l : List Nat) (a : Nat) (h : Nat → Nat), (∀ b, b ∈ l → b < N 0 0) → WF (va_up N 3 h) B → WF (va_up N 3 (spEat N m l a h)) B
  | [], a, h, hl, hW => hW
  | b :: l, a, h, hl, hW => by
    have hb := hl b List.mem_cons_self
    have c3 : h b ≤ N 2 b := (hW.2.1 b hb).2.2
    have hl' : ∀ b, b ∈ l → b < N 0 0 := fun b hb => hl b (List.mem_cons_of_mem _ hb)
    rw [spEat]
    split
    · exact hW
    · split
      · exact WF.eat l _ _ hl' (hW.holes (by omega))
      · exact WF.eat l _ _ hl' hW
theorem sum_up {h : Nat → Nat} {b v : Nat} : ∀ {n : Nat}, b < n → spSum (va_up h b v) n + h b = spSum h n + v
  | n + 1, hb => by
    rw [spSum, spSum, q_up]
    by_cases e : n = b
    · subst e
      rw [if_pos rfl, sum_congr (g := h) fun c hc => by rw [q_up, if_neg (by omega)]]
      omega
    · rw [if_neg e]
      have := sum_up (h := h) (b := b) (v := v) (n := n) (by omega)
      omega
theorem m_eat_L {N : NN} {B : BB} {S0 : M2} {m : Nat} (hm : m < N 7 0) : ∀ (l pre : List Nat) (a mm f : Nat) (h : Nat → Nat) (S : M2), B (N 11 m) = pre ++ l → MA (va_up N 3 h) B S0 S → WF (va_up N 3 h) B → a ≤ 100 → l.length < f → ∃ S' mm', fX5_eatsNow_L23 (nI m) (nI (B (N 11 m)).length) (fun p => some (p.1, p.2)) f (nI a) (nI mm) (nI pre.length) S = some (nI mm', S') ∧ MA (va_up N 3 (spEat N m l a h)) B S0 S' ∧ mm' + spSum h (N 0 0) = mm + spSum (spEat N m l a h) (N 0 0)
  | [], pre, a, mm, f + 1, h, S, hB, hS, hW, ha, hf => by
    have w4 : N 11 m ≤ 2 := (hW.2.2.1 m hm).2.2.2
    have w2 : (B (N 11 m)).length ≤ N 0 0 := hW.2.2.2.2.le (by omega)
    have w3 : N 0 0 ≤ 5 := hW.1.1
    simp only [List.append_nil] at hB
    have hl : (B (N 11 m)).length = pre.length := by rw [hB]
    refine ⟨S, mm, ?_, hS, rfl⟩
    simp (disch := omega) only [fX5_eatsNow_L23, lt, jn, q_lit, q_bnd, q_cl, q_le, q_lt, q_eq, pk_mul, nI_add, q_sub, q_div, q_pos, q_neg, q_T, q_F, q_max0, q_flg1, q_flg0, q_min, q_min2, q_bit, q_some, hl]
  | b :: l, pre, a, mm, f + 1, h, S, hB, hS, hW, ha, hf => by
    have w4 : N 11 m ≤ 2 := (hW.2.2.1 m hm).2.2.2
    have w2 : (B (N 11 m)).length ≤ N 0 0 := hW.2.2.2.2.le (by omega)
    have w3 : N 0 0 ≤ 5 := hW.1.1
    have w5 : N 7 0 ≤ 4 := hW.1.2.1
    have hl : (B (N 11 m)).length = pre.length + (l.length + 1) := by rw [hB]; simp
    have hbm : b ∈ B (N 11 m) := by rw [hB]; simp
    have hb1 : b < N 0 0 := hW.2.2.2.2.lt (by omega) hbm
    have c2 : N 2 b ≤ 9 := (hW.2.1 b hb1).2.1
    have c3 : h b ≤ N 2 b := (hW.2.1 b hb1).2.2
    have e11 : S 1 (30 + 4 * m + 3) = nI (N 11 m) := (hS.2.2.2.2.2.1 m hm).2.2.2
    obtain ⟨g1', g2', g3', g4'⟩ := hS.2.2.2.2.1 b hb1
    have g2 : S 1 (6 * b + 1) = nI (N 2 b) := g2'
    have g3 : S 1 (6 * b + 2) = nI (h b) := g3'
    have g4 : S 1 (6 * b + 3) = nI ((N 4 0).testBit b).toNat := g4'
    have eb : fX5_boltAt (nI (N 11 m)) (nI pre.length) S = some (nI b) := m_boltAt hS hW (by omega) (by rw [hB]; simp)
    have el : fX5_doesLike (nI m) (nI b) S = some (nI (spLik N m b).toNat) := m_likes hS hW hm hb1
    rw [spEat]
    by_cases e1 : (N 4 0).testBit b = true
    · refine ⟨S, mm, ?_, ?_⟩
      · simp (disch := omega) only [fX5_eatsNow_L23, fX5_mothOf, fX5_of, lt, jn, q_lit, q_bnd, q_cl, q_le, q_lt, q_eq, pk_mul, nI_add, q_sub, q_div, q_pos, q_neg, q_T, q_F, q_max0, q_flg1, q_flg0, q_min, q_min2, q_bit, q_some, hl, e11, eb, g4, q_b1, e1]
      · rw [if_pos e1]
        exact ⟨hS, rfl⟩
    · rw [if_neg e1]
      by_cases e2 : spLik N m b = true
      · rw [if_pos e2]
        have ih := m_eat_L (S0 := S0) hm l (pre ++ [b]) (a - min a (N 2 b - h b)) (mm + min a (N 2 b - h b)) f (va_up h b (h b + min a (N 2 b - h b))) (va_up S 1 (upd (S 1) (6 * b + 2) (nI (h b + min a (N 2 b - h b))))) (by rw [hB]; simp) (hS.holes hW hb1) (hW.holes (by omega)) (by omega) (by simp at hf; omega)
        rw [List.length_append, List.length_singleton] at ih
        obtain ⟨S', mm', i1, i2, i3⟩ := ih
        refine ⟨S', mm', ?_, i2, ?_⟩
        · simp (disch := omega) only [fX5_eatsNow_L23, fX5_mothOf, fX5_of, fX5_becomesOf, lt, jn, q_lit, q_bnd, q_cl, q_le, q_lt, q_eq, pk_mul, nI_add, q_sub, q_div, q_pos, q_neg, q_T, q_F, q_max0, q_flg1, q_flg0, q_min, q_min2, q_bit, q_some, hl, e11, eb, g4, q_b1, e1, el, e2, q_b0, Bool.true_eq_false, Bool.false_eq_true, g2, g3]
          rw [hl] at i1
          by_cases e9 : N 2 b - h b ≤ a
          · rw [Nat.min_eq_right e9] at i1
            rw [if_pos e9]
            exact i1
          · rw [Nat.min_eq_left (by omega)] at i1
            rw [if_neg e9]
            exact i1
        · have := sum_up (h := h) (b := b) (v := h b + min a (N 2 b - h b)) hb1
          omega
      · rw [if_neg e2]
        have e2' : spLik N m b = false := by simpa using e2
        have ih := m_eat_L (S0 := S0) hm l (pre ++ [b]) a mm f h S (by rw [hB]; simp) hS hW ha (by simp at hf; omega)
        rw [List.length_append, List.length_singleton] at ih
        obtain ⟨S', mm', i1, i2⟩ := ih
        refine ⟨S', mm', ?_, i2⟩
        simp (disch := omega) only [fX5_eatsNow_L23, fX5_mothOf, fX5_of, fX5_becomesOf, lt, jn, q_lit, q_bnd, q_cl, q_le, q_lt, q_eq, pk_mul, nI_add, q_sub, q_div, q_pos, q_neg, q_T, q_F, q_max0, q_flg1, q_flg0, q_min, q_min2, q_bit, q_some, hl, e11, eb, g4, q_b1, e1, el, e2', q_b0, Bool.false_eq_true]
        rw [hl] at i1
        exact i1
theorem spApp_le {N : NN} {B : BB} (hW : WF N B) {m : Nat} (hm : m < N 7 0) : spApp N m ≤ 100 := by
  have w1 := hW.1
  have w2 := hW.2.2.1 m hm
  unfold spApp
  split
  · omega
  · split
    · omega
    · split <;> omega
theorem m_eatsNow {N : NN} {B : BB} {S0 S : M2} {h : Nat → Nat} {m : Nat} (hS : MA (va_up N 3 h) B S0 S) (hW : WF (va_up N 3 h) B) (hm : m < N 7 0) : ∃ S' mm', fX5_eatsNow (nI m) S = some (nI mm', S') ∧ MA (va_up N 3 (spEat N m (B (N 11 m)) (spApp N m) h)) B S0 S' ∧ WF (va_up N 3 (spEat N m (B (N 11 m)) (spApp N m) h)) B ∧ mm' + spSum h (N 0 0) = spSum (spEat N m (B (N 11 m)) (spApp N m) h) (N 0 0) := by
  have w4 : N 11 m ≤ 2 := (hW.2.2.1 m hm).2.2.2
  have w2 : (B (N 11 m)).length ≤ N 0 0 := hW.2.2.2.2.le (by omega)
  have w3 : N 0 0 ≤ 5 := hW.1.1
  have w5 : N 7 0 ≤ 4 := hW.1.2.1
  have e1 : fX5_appetite (nI m) S = some (nI (spApp N m)) := m_appetite hS hW hm
  have e11 : S 1 (30 + 4 * m + 3) = nI (N 11 m) := (hS.2.2.2.2.2.1 m hm).2.2.2
  have e2 : fX5_liesIn (nI (N 11 m)) S = some (nI (B (N 11 m)).length) := m_lies hS hW (by omega)
  have w6 : spApp N m ≤ 100 := spApp_le hW hm
  obtain ⟨S', mm', i1, i2, i3⟩ := m_eat_L hm (B (N 11 m)) [] (spApp N m) 0 400 h S rfl hS hW w6 (by omega)
  refine ⟨S', mm', ?_, i2, WF.eat _ _ _ (fun b hb => hW.2.2.2.2.lt (by omega) hb) hW, by omega⟩
  unfold fX5_eatsNow
  simp (disch := omega) only [fX5_mothOf, lt, jn, q_lit, q_bnd, q_cl, q_le, q_lt, q_eq, pk_mul, nI_add, q_sub, q_div, q_pos, q_neg, q_T, q_F, q_max0, q_flg1, q_flg0, q_min, q_min2, q_bit, q_some, e1, e11, e2]
  exact i1
theorem MA.pass {N : NN} {B : BB} {S0 S : M2} {fl : Nat} (hS : MA (spNight N B fl) B S0 S) (hW : WF (spNight N B fl) B) : MA (spPass N B fl) B S0 (va_up (va_up S 1 (upd (S 1) 46 (nI ((N 12 0 + 1) % 4)))) 1 (upd (upd (S 1) 46 (nI ((N 12 0 + 1) % 4))) 48 (nI (N 14 0 + 1)))) := by
  obtain ⟨h0, h3, h4, ⟨a1, a2, a3, a4⟩, h5, h6, h7, h8⟩ := hS
  have w1 : N 0 0 ≤ 5 := hW.1.1
  have w2 : N 7 0 ≤ 4 := hW.1.2.1
  have w3 : N 15 0 ≤ 6 := hW.1.2.2.2.2.2.2
  refine ⟨fun k hk => by rw [q_up, if_neg hk, q_up, if_neg hk]; exact h0 k hk, h3, h4, ⟨?_, ?_, ?_, ?_⟩, fun b' hb' => ⟨?_, ?_, ?_, ?_⟩, fun m hm => ⟨?_, ?_, ?_, ?_⟩, fun i hi => ⟨?_, ?_⟩, fun k hk i c hc => ⟨?_, ?_⟩⟩
  · rfl
  · exact a2
  · rfl
  · exact a4
  · have hb2 : b' < N 0 0 := hb'
    rw [q_up, if_pos rfl, q_ud, if_neg (by omega), q_ud, if_neg (by omega)]; exact (h5 b' hb').1
  · have hb2 : b' < N 0 0 := hb'
    rw [q_up, if_pos rfl, q_ud, if_neg (by omega), q_ud, if_neg (by omega)]; exact (h5 b' hb').2.1
  · have hb2 : b' < N 0 0 := hb'
    rw [q_up, if_pos rfl, q_ud, if_neg (by omega), q_ud, if_neg (by omega)]; exact (h5 b' hb').2.2.1
  · have hb2 : b' < N 0 0 := hb'
    rw [q_up, if_pos rfl, q_ud, if_neg (by omega), q_ud, if_neg (by omega)]; exact (h5 b' hb').2.2.2
  · have hm2 : m < N 7 0 := hm
    rw [q_up, if_pos rfl, q_ud, if_neg (by omega), q_ud, if_neg (by omega)]; exact (h6 m hm).1
  · have hm2 : m < N 7 0 := hm
    rw [q_up, if_pos rfl, q_ud, if_neg (by omega), q_ud, if_neg (by omega)]; exact (h6 m hm).2.1
  · have hm2 : m < N 7 0 := hm
    rw [q_up, if_pos rfl, q_ud, if_neg (by omega), q_ud, if_neg (by omega)]; exact (h6 m hm).2.2.1
  · have hm2 : m < N 7 0 := hm
    rw [q_up, if_pos rfl, q_ud, if_neg (by omega), q_ud, if_neg (by omega)]; exact (h6 m hm).2.2.2
  · rw [q_up, if_pos rfl, q_ud, if_neg (by omega), q_ud, if_neg (by omega)]; exact (h7 i hi).1
  · rw [q_up, if_pos rfl, q_ud, if_neg (by omega), q_ud, if_neg (by omega)]; exact (h7 i hi).2
  · have hc2 : c < N 0 0 := hW.2.2.2.2.lt hk (List.mem_of_getElem? hc)
    rw [q_up, if_pos rfl, q_ud, if_neg (by omega), q_ud, if_neg (by omega)]; exact (h8 k hk i c hc).1
  · have hc2 : c < N 0 0 := hW.2.2.2.2.lt hk (List.mem_of_getElem? hc)
    rw [q_up, if_pos rfl, q_ud, if_neg (by omega), q_ud, if_neg (by omega)]; exact (h8 k hk i c hc).2
theorem m_night_L {N : NN} {B : BB} {S0 : M2} {fl : Nat} (hf : fl < 32) : ∀ (d t f : Nat) (S : M2), t + d = N 7 0 → d < f → MA (va_up N 3 (spLoose N B fl t)) B S0 S → WF (va_up N 3 (spLoose N B fl t)) B → ∃ S', (∀ kk : M2 → Option M2, fX5_nightGoes_L2 (nI fl) kk f (nI t) S = kk S') ∧ MA (spNight N B fl) B S0 S' ∧ WF (spNight N B fl) B
  | 0, t, f + 1, S, ht, hd, hS, hW => by
    have w2 : N 7 0 ≤ 4 := hW.1.2.1
    have e : S 4 0 = nI (N 7 0) := hS.m
    have e2 : t = N 7 0 := by omega
    subst e2
    refine ⟨S, fun kk => ?_, hS, hW⟩
    simp (disch := omega) only [fX5_nightGoes_L2, lt, jn, q_lit, q_bnd, q_cl, q_le, q_lt, q_eq, pk_mul, nI_add, q_sub, q_div, q_pos, q_neg, q_T, q_F, q_max0, q_flg1, q_flg0, q_min, q_min2, q_bit, q_some, e]
  | d + 1, t, f + 1, S, ht, hd, hS, hW => by
    have w2 : N 7 0 ≤ 4 := hW.1.2.1
    have e : S 4 0 = nI (N 7 0) := hS.m
    have hm : t < N 7 0 := by omega
    by_cases e1 : fl.testBit t = true
    · obtain ⟨S1, mm, i1, i2, i3, -⟩ := m_eatsNow (m := t) hS hW hm
      obtain ⟨S2, j1, j2⟩ := m_night_L (N := N) (B := B) (S0 := S0) hf d (t + 1) f S1 (by omega) (by omega) (by rw [spLoose, if_pos e1]; exact i2) (by rw [spLoose, if_pos e1]; exact i3)
      refine ⟨S2, fun kk => ?_, j2⟩
      simp (disch := omega) only [fX5_nightGoes_L2, lt, jn, q_lit, q_bnd, q_cl, q_le, q_lt, q_eq, pk_mul, nI_add, q_sub, q_div, q_pos, q_neg, q_T, q_F, q_max0, q_flg1, q_flg0, q_min, q_min2, q_bit, q_some, e, q_b1, e1, i1, j1]
    · obtain ⟨S2, j1, j2⟩ := m_night_L (N := N) (B := B) (S0 := S0) hf d (t + 1) f S (by omega) (by omega) (by rw [spLoose, if_neg e1]; exact hS) (by rw [spLoose, if_neg e1]; exact hW)
      refine ⟨S2, fun kk => ?_, j2⟩
      simp (disch := omega) only [fX5_nightGoes_L2, lt, jn, q_lit, q_bnd, q_cl, q_le, q_lt, q_eq, pk_mul, nI_add, q_sub, q_div, q_pos, q_neg, q_T, q_F, q_max0, q_flg1, q_flg0, q_min, q_min2, q_bit, q_some, e, q_b1, e1, Bool.false_eq_true, j1]
theorem m_night {N : NN} {B : BB} {S0 S : M2} {fl : Nat} (hf : fl < 32) (hS : MA N B S0 S) (hW : WF N B) : ∃ S', fX5_nightGoes (nI fl) S = some S' ∧ MA (spPass N B fl) B S0 S' ∧ WF (spPass N B fl) B := by
  have w2 : N 7 0 ≤ 4 := hW.1.2.1
  have wm : N 12 0 ≤ 3 := hW.1.2.2.2.1
  have e : va_up N 3 (spLoose N B fl 0) = N := up_id N 3
  obtain ⟨S1, j1, j2, j3⟩ := m_night_L (N := N) (B := B) (S0 := S0) hf (N 7 0) 0 400 S (by omega) (by omega) (by rw [e]; exact hS) (by rw [e]; exact hW)
  have e46 : S1 1 46 = nI (N 12 0) := j2.2.2.2.1.1
  have e48 : S1 1 48 = nI (N 14 0) := j2.2.2.2.1.2.2.1
  refine ⟨_, ?_, j2.pass j3, j3.pass⟩
  unfold fX5_nightGoes
  have e4 : nI (N 12 0 + 1) - nI ((N 12 0 + 1) / 4 * 4) = nI ((N 12 0 + 1) % 4) := by
    rw [q_sub (by omega)]
    exact congrArg nI (by omega)
  simp (disch := omega) only [lt, q_lit, q_bnd, q_cl, q_eq, q_neg, q_div, pk_mul, nI_add, q_some, j1, e46, e4, q_up, q_ud, q_T, q_F, e48]
end
section
theorem spLoose_congr {N : NN} {B : BB} {f g : Nat} : ∀ t : Nat, (∀ i, i < t → f.testBit i = g.testBit i) → spLoose N B f t = spLoose N B g t
  | 0, _ => rfl
  | t + 1, h => by rw [spLoose, spLoose, h t (by omega), spLoose_congr t fun i hi => h i (by omega)]
theorem spNight_all {N : NN} {B : BB} (h : N 7 0 ≤ 4) : spNight N B (2 ^ N 7 0 - 1) = spNight N B 15 := by
  unfold spNight
  rw [spLoose_congr (N 7 0) fun i hi => ?_]
  rw [Nat.testBit_two_pow_sub_one, show (15 : Nat) = 2 ^ 4 - 1 from rfl, Nat.testBit_two_pow_sub_one, decide_eq_true hi, decide_eq_true (by omega)]
theorem spPass_all {N : NN} {B : BB} (h : N 7 0 ≤ 4) : spPass N B (2 ^ N 7 0 - 1) = spPass N B 15 := by
  unfold spPass
  rw [spNight_all h]
theorem m_every {N : NN} {B : BB} {S0 S : M2} (hS : MA N B S0 S) (h : N 7 0 ≤ 4) : fX5_everyMoth S = some (nI (2 ^ N 7 0 - 1)) := by
  have hp : 0 < 2 ^ N 7 0 := Nat.two_pow_pos _
  unfold fX5_everyMoth
  simp (disch := omega) only [lt, jn, q_lit, q_bnd, q_cl, q_le, q_lt, q_eq, pk_mul, nI_add, q_sub, q_div, q_pos, q_neg, q_T, q_F, q_max0, q_flg1, q_flg0, q_min, q_min2, q_bit, q_some, hS.m, q_shl]
theorem pw4 {m : Nat} (h : m ≤ 4) : 2 ^ m - 1 < 32 := by
  have : 2 ^ m ≤ 2 ^ 4 := Nat.pow_le_pow_right (by decide) h
  omega
theorem m_pass {N : NN} {B : BB} {S0 S : M2} (hS : MA N B S0 S) (hW : WF N B) : ∃ S', fX5_nightGoes (nI (2 ^ N 7 0 - 1)) S = some S' ∧ MA (spPass N B 15) B S0 S' ∧ WF (spPass N B 15) B := by
  have h := hW.1.2.1
  have := m_night (pw4 h) hS hW
  rw [spPass_all h] at this
  exact this
def spNights (N : NN) (B : BB) : Nat → NN
  | 0 => N
  | n + 1 => spPass (spNights N B n) B 15
theorem m_nights_L {N : NN} {B : BB} {S0 : M2} {n : Nat} (hn : n ≤ 100) : ∀ (d t f : Nat) (S : M2), t + d = n → d < f → MA (spNights N B t) B S0 S → WF (spNights N B t) B → ∃ S', (∀ kk : M2 → Option M2, fX5_nightsGo_L2 (nI n) kk f (nI t) S = kk S') ∧ MA (spNights N B n) B S0 S' ∧ WF (spNights N B n) B
  | 0, t, f + 1, S, ht, hd, hS, hW => by
    have e2 : t = n := by omega
    subst e2
    refine ⟨S, fun kk => ?_, hS, hW⟩
    simp (disch := omega) only [fX5_nightsGo_L2, lt, jn, q_lit, q_bnd, q_cl, q_le, q_lt, q_eq, pk_mul, nI_add, q_sub, q_div, q_pos, q_neg, q_T, q_F, q_max0, q_flg1, q_flg0, q_min, q_min2, q_bit, q_some]
  | d + 1, t, f + 1, S, ht, hd, hS, hW => by
    obtain ⟨S1, i1, i2, i3⟩ := m_pass hS hW
    obtain ⟨S2, j1, j2⟩ := m_nights_L (N := N) (B := B) (S0 := S0) hn d (t + 1) f S1 (by omega) (by omega) i2 i3
    refine ⟨S2, fun kk => ?_, j2⟩
    have e := m_every hS hW.1.2.1
    simp (disch := omega) only [fX5_nightsGo_L2, lt, jn, q_lit, q_bnd, q_cl, q_le, q_lt, q_eq, pk_mul, nI_add, q_sub, q_div, q_pos, q_neg, q_T, q_F, q_max0, q_flg1, q_flg0, q_min, q_min2, q_bit, q_some, e, i1, j1]
theorem m_nights {N : NN} {B : BB} {S0 S : M2} {n : Nat} (hn : n ≤ 100) (hS : MA N B S0 S) (hW : WF N B) : ∃ S', fX5_nightsGo (nI n) S = some S' ∧ MA (spNights N B n) B S0 S' ∧ WF (spNights N B n) B := by
  obtain ⟨S', i1, i2⟩ := m_nights_L hn n 0 400 S (by omega) (by omega) hS hW
  exact ⟨S', i1 _, i2⟩
theorem m_duty_L {N : NN} {B : BB} {S0 S : M2} (hS : MA N B S0 S) (hW : WF N B) {k : Nat} (hk : k < 3) (kk : Int32 → Option Int32) : ∀ (l pre : List Nat) (a s f : Nat), B k = pre ++ l → (pre = [] ∧ a = 0 ∨ ∃ p c, pre = p ++ [c] ∧ a = N 3 c) → s ≤ 9 * pre.length → l.length < f → fX5_dutyOf_L11 S (nI k) (nI (B k).length) kk f (nI s) (nI pre.length) = kk (nI (s + spDuty (N 3) a l))
  | [], pre, a, s, f + 1, hB, ha, hs, hf => by
    have w1 := hW.1
    have w2 := hW.2.2.2.2.le hk
    simp only [List.append_nil] at hB
    have hl : (B k).length = pre.length := by rw [hB]
    simp (disch := omega) only [fX5_dutyOf_L11, lt, jn, q_lit, q_bnd, q_cl, q_le, q_lt, q_eq, pk_mul, nI_add, q_sub, q_div, q_pos, q_neg, q_T, q_F, q_max0, q_flg1, q_flg0, q_min, q_min2, q_bit, q_some, hl, spDuty, Nat.add_zero]
  | b :: l, pre, a, s, f + 1, hB, ha, hs, hf => by
    have w1 := hW.1
    have w2 := hW.2.2.2.2.le hk
    have hl : (B k).length = pre.length + (l.length + 1) := by rw [hB]; simp
    have hbm : b ∈ B k := by rw [hB]; simp
    have hb1 : b < N 0 0 := hW.2.2.2.2.lt hk hbm
    have c := hW.2.1 b hb1
    have g3 := (hS.2.2.2.2.1 b hb1).2.2.1
    have eb : fX5_boltAt (nI k) (nI pre.length) S = some (nI b) := m_boltAt hS hW hk (by rw [hB]; simp)
    have ih := m_duty_L hS hW hk kk l (pre ++ [b]) (N 3 b) (s + (N 3 b - min a (N 3 b))) f (by rw [hB]; simp) (Or.inr ⟨pre, b, rfl, rfl⟩) (by simp; omega) (by simp at hf; omega)
    rw [List.length_append, List.length_singleton, hl] at ih
    rw [hl, spDuty, Nat.min_comm, ← Nat.add_assoc s, ← ih]
    rcases ha with ⟨rfl, rfl⟩ | ⟨p, q, rfl, rfl⟩
    · rw [List.length_nil] at *
      simp (disch := omega) only [fX5_dutyOf_L11, fX5_of, lt, jn, q_lit, q_bnd, q_cl, q_le, q_lt, q_eq, pk_mul, nI_add, q_sub, q_div, q_pos, q_neg, q_T, q_F, q_max0, q_flg1, q_flg0, q_min, q_min2, q_bit, q_some, hl, eb, g3, Nat.zero_min, Nat.sub_zero, Nat.sub_self]
    · have hq1 : q < N 0 0 := hW.2.2.2.2.lt hk (by rw [hB]; simp)
      have cq := hW.2.1 q hq1
      have g3q := (hS.2.2.2.2.1 q hq1).2.2.1
      have eq : fX5_boltAt (nI k) (nI p.length) S = some (nI q) := m_boltAt hS hW hk (by rw [hB]; simp)
      rw [List.length_append, List.length_singleton] at *
      simp (disch := omega) only [fX5_dutyOf_L11, fX5_of, lt, jn, q_lit, q_bnd, q_cl, q_le, q_lt, q_eq, pk_mul, nI_add, q_sub, q_div, q_pos, q_neg, q_T, q_F, q_max0, q_flg1, q_flg0, q_min, q_min2, q_bit, q_some, hl, eb, g3, Nat.add_sub_cancel, eq, g3q]
      by_cases e9 : N 3 q ≤ N 3 b
      · rw [if_pos e9, Nat.min_eq_left e9]
      · rw [if_neg e9, Nat.min_eq_right (by omega)]
theorem m_duty {N : NN} {B : BB} {S0 S : M2} (hS : MA N B S0 S) (hW : WF N B) {k : Nat} (hk : k < 3) : fX5_dutyOf (nI k) S = some (nI (spDuty (N 3) 0 (B k) * N 13 0)) := by
  have w1 := hW.1
  have w2 := hW.2.2.2.2.le hk
  have e47 : S 1 47 = nI (N 13 0) := hS.2.2.2.1.2.1
  have := fun kk => m_duty_L hS hW hk kk (B k) [] 0 0 400 rfl (Or.inl ⟨rfl, rfl⟩) (by omega) (by omega)
  unfold fX5_dutyOf
  rw [List.length_nil] at this
  simp (disch := omega) only [lt, jn, q_lit, q_bnd, q_cl, q_le, q_lt, q_eq, pk_mul, nI_add, q_sub, q_div, q_pos, q_neg, q_T, q_F, q_max0, q_flg1, q_flg0, q_min, q_min2, q_bit, q_some, m_lies hS hW hk, this, e47, Nat.zero_add]
theorem m_dutyAll {N : NN} {B : BB} {S0 S : M2} (hS : MA N B S0 S) (hW : WF N B) : fX5_dutyAll S = some (nI (spAll N B)) := by
  unfold fX5_dutyAll spAll
  simp (disch := omega) only [lt, jn, q_lit, q_bnd, q_cl, q_le, q_lt, q_eq, pk_mul, nI_add, q_sub, q_div, q_pos, q_neg, q_T, q_F, q_max0, q_flg1, q_flg0, q_min, q_min2, q_bit, q_some, m_duty hS hW (show 0 < 3 by omega), m_duty hS hW (show 1 < 3 by omega), m_duty hS hW (show 2 < 3 by omega)]
theorem m_next {N : NN} {B : BB} {S0 S : M2} (hS : MA N B S0 S) (hW : WF N B) : ∃ S', fX5_dutyNext S = some (nI (spAll (spNight N B 15) B), S') ∧ MA (spPass N B 15) B S0 S' ∧ WF (spPass N B 15) B := by
  obtain ⟨S1, i1, i2, i3⟩ := m_pass hS hW
  refine ⟨S1, ?_, i2, i3⟩
  have e := m_every hS hW.1.2.1
  have e2 := m_dutyAll i2 i3
  have e3 : spAll (spPass N B 15) B = spAll (spNight N B 15) B := rfl
  rw [e3] at e2
  unfold fX5_dutyNext
  simp (disch := omega) only [lt, jn, q_lit, q_bnd, q_cl, q_le, q_lt, q_eq, pk_mul, nI_add, q_sub, q_div, q_pos, q_neg, q_T, q_F, q_max0, q_flg1, q_flg0, q_min, q_min2, q_bit, q_some, e, i1, e2]
theorem m_sum_L {N : NN} {B : BB} {S0 S : M2} (hS : MA N B S0 S) (hW : WF N B) (kk : Int32 → Option Int32) : ∀ d b f : Nat, b + d = N 0 0 → d < f → fX5_allHoles_L4 S kk f (nI (spSum (N 3) b)) (nI b) = kk (nI (spSum (N 3) (N 0 0)))
  | 0, b, f + 1, hb, hf => by
    have w1 := hW.1
    have e : b = N 0 0 := by omega
    simp (disch := omega) only [fX5_allHoles_L4, lt, jn, q_lit, q_bnd, q_cl, q_le, q_lt, q_eq, pk_mul, nI_add, q_sub, q_div, q_pos, q_neg, q_T, q_F, q_max0, q_flg1, q_flg0, q_min, q_min2, q_bit, q_some, hS.n, e]
  | d + 1, b, f + 1, hb, hf => by
    have w1 := hW.1
    have h1 : b < N 0 0 := by omega
    have ih := m_sum_L hS hW kk d (b + 1) f (by omega) (by omega)
    simp (disch := omega) only [fX5_allHoles_L4, fX5_of, lt, jn, q_lit, q_bnd, q_cl, q_le, q_lt, q_eq, pk_mul, nI_add, q_sub, q_div, q_pos, q_neg, q_T, q_F, q_max0, q_flg1, q_flg0, q_min, q_min2, q_bit, q_some, hS.n, (hS.2.2.2.2.1 b h1).2.2.1]
    exact ih
theorem m_sum {N : NN} {B : BB} {S0 S : M2} (hS : MA N B S0 S) (hW : WF N B) : fX5_allHoles S = some (nI (spSum (N 3) (N 0 0))) :=
  m_sum_L hS hW _ (N 0 0) 0 400 (by omega) (by have := hW.1; omega)
theorem m_eaten1 {N : NN} {B : BB} {S0 S : M2} (hS : MA N B S0 S) (hW : WF N B) {b : Nat} (hb : b < N 0 0) : fX5_isEaten (nI b) S = some (nI (spEaten N b).toNat) := by
  have w1 := hW.1
  obtain ⟨g1, g2, g3, g4⟩ := hS.2.2.2.2.1 b hb
  obtain ⟨c1, c2, c3⟩ := hW.2.1 b hb
  unfold spEaten
  simp (disch := omega) only [fX5_isEaten, fX5_of, lt, jn, q_lit, q_bnd, q_cl, q_le, q_lt, q_eq, pk_mul, nI_add, q_sub, q_div, q_pos, q_neg, q_T, q_F, q_max0, q_flg1, q_flg0, q_min, q_min2, q_bit, q_some, g2, g3]
  by_cases e1 : N 2 b ≤ 0
  · have : ¬ (0 < N 2 b ∧ N 3 b = N 2 b) := by omega
    simp (disch := omega) only [q_pos, this, decide_false, Bool.toNat_false]
  · by_cases e2 : N 3 b = N 2 b
    · have : (0 < N 2 b ∧ N 3 b = N 2 b) := by omega
      rw [if_neg e1, if_pos e2, decide_eq_true this]
      rfl
    · have : ¬ (0 < N 2 b ∧ N 3 b = N 2 b) := by omega
      rw [if_neg e1, if_neg e2, decide_eq_false this]
      rfl
/-- a bit more, or none -/
theorem q_orf {c b : Nat} (hb : b < 31) (p : Bool) : nI c ||| (nI p.toNat <<< (nI b &&& nI 31)) = nI (if p = true then c ||| 2 ^ b else c) := by
  cases p
  · rw [if_neg (by decide)]
    have e : nI false.toNat <<< (nI b &&& nI 31) = nI 0 := by
      have := pk_shlN (n := 0) (nI b &&& 31) b (q_s31 b (by omega)) (by omega)
      rw [Nat.zero_mul] at this
      exact this
    rw [e, q_or, Nat.or_zero]
  · rw [if_pos rfl]
    have e : nI true.toNat <<< (nI b &&& nI 31) = nI (2 ^ b) := q_shl hb
    rw [e, q_or]
theorem m_eaten_L {N : NN} {B : BB} {S0 S : M2} (hS : MA N B S0 S) (hW : WF N B) (kk : Int32 → Option Int32) : ∀ d b f : Nat, b + d = N 0 0 → d < f → fX5_eaten_L4 S kk f (nI (spBits (spEaten N) b)) (nI b) = kk (nI (spBits (spEaten N) (N 0 0)))
  | 0, b, f + 1, hb, hf => by
    have w1 := hW.1
    have e : b = N 0 0 := by omega
    simp (disch := omega) only [fX5_eaten_L4, lt, jn, q_lit, q_bnd, q_cl, q_le, q_lt, q_eq, pk_mul, nI_add, q_sub, q_div, q_pos, q_neg, q_T, q_F, q_max0, q_flg1, q_flg0, q_min, q_min2, q_bit, q_some, hS.n, e]
  | d + 1, b, f + 1, hb, hf => by
    have w1 := hW.1
    have h1 : b < N 0 0 := by omega
    have ih := m_eaten_L hS hW kk d (b + 1) f (by omega) (by omega)
    simp (disch := omega) only [fX5_eaten_L4, lt, jn, q_lit, q_bnd, q_cl, q_le, q_lt, q_eq, pk_mul, nI_add, q_sub, q_div, q_pos, q_neg, q_T, q_F, q_max0, q_flg1, q_flg0, q_min, q_min2, q_bit, q_some, hS.n, m_eaten1 hS hW h1, q_flag, q_orf]
    exact ih
theorem m_eaten {N : NN} {B : BB} {S0 S : M2} (hS : MA N B S0 S) (hW : WF N B) : fX5_eaten S = some (nI (spBits (spEaten N) (N 0 0))) :=
  m_eaten_L hS hW _ (N 0 0) 0 400 (by omega) (by have := hW.1; omega)
/-- what was seen, in the row st -/
def SN (N : NN) (S : M2) : Prop := S 0 49 = nI (N 15 0) ∧ ∀ i, i < N 15 0 → S 0 (50 + 2 * i) = nI (N 16 i) ∧ S 0 (50 + 2 * i + 1) = nI (N 17 i)
theorem m_seen_L {N : NN} {B : BB} {S0 S : M2} (hS : MA N B S0 S) (hW : WF N B) (hN : SN N S) {st : Nat} (hst : st < 32) (kk : Int32 → Option Int32) : ∀ (d i f : Nat) (p : Bool), i + d = N 15 0 → d < f → fX5_isSo_L4 S (nI st) kk f (nI p.toNat) (nI i) = kk (nI (p && spSeen N st d i).toNat)
  | 0, i, f + 1, p, hi, hf => by
    have w1 := hW.1
    have e : i = N 15 0 := by omega
    simp (disch := omega) only [fX5_isSo_L4, lt, jn, q_lit, q_bnd, q_cl, q_le, q_lt, q_eq, pk_mul, nI_add, q_sub, q_div, q_pos, q_neg, q_T, q_F, q_max0, q_flg1, q_flg0, q_min, q_min2, q_bit, q_some, hN.1, e, spSeen, Bool.and_true]
  | d + 1, i, f + 1, p, hi, hf => by
    have w1 := hW.1
    have h1 : i < N 15 0 := by omega
    obtain ⟨h16, h17⟩ := hN.2 i h1
    obtain ⟨w16, w17⟩ := hW.2.2.2.1 i h1
    obtain ⟨g1, g2, g3, g4⟩ := hS.2.2.2.2.1 _ w16
    obtain ⟨c1, c2, c3⟩ := hW.2.1 _ w16
    have ih := fun p => m_seen_L hS hW hN hst kk d (i + 1) f p (by omega) (by omega)
    have iht := ih true
    have ihf := ih false
    rw [Bool.true_and, Bool.toNat_true] at iht
    rw [Bool.false_and, Bool.toNat_false] at ihf
    rw [spSeen]
    simp (disch := omega) only [fX5_isSo_L4, fX5_of, lt, jn, q_lit, q_bnd, q_cl, q_le, q_lt, q_eq, pk_mul, nI_add, q_sub, q_div, q_pos, q_neg, q_T, q_F, q_max0, q_flg1, q_flg0, q_min, q_min2, q_bit, q_some, hN.1, h16, h17, g2, g3, q_b0, q_b1, iht, ihf]
    cases p
    · simp only [Bool.false_and, Bool.toNat_false, if_true]
      split
      · split <;> rfl
      · rfl
    · simp only [Bool.true_and, Bool.true_eq_false, if_false]
      by_cases e1 : st.testBit (N 16 i) = true
      · by_cases e2 : N 2 (N 16 i) ≤ N 3 (N 16 i)
        · have e3 : ¬ N 3 (N 16 i) < N 2 (N 16 i) := by omega
          simp only [e1, e2, e3, if_true, decide_false, Bool.and_false, Bool.toNat_false, Nat.add_zero]
          by_cases e4 : N 3 (N 16 i) = N 17 i <;> simp [e4]
        · have e3 : N 3 (N 16 i) < N 2 (N 16 i) := by omega
          simp only [e1, e2, e3, if_true, if_false, decide_true, Bool.and_true, Bool.toNat_true]
          by_cases e4 : N 3 (N 16 i) + 1 = N 17 i <;> simp [e4]
      · simp only [e1, if_false, Bool.false_and, Bool.toNat_false, Nat.add_zero, Bool.false_eq_true]
        by_cases e4 : N 3 (N 16 i) = N 17 i <;> simp [e4]
theorem m_seen {N : NN} {B : BB} {S0 S : M2} (hS : MA N B S0 S) (hW : WF N B) (hN : SN N S) {st : Nat} (hst : st < 32) : fX5_isSo (nI st) S = some (nI (spSeen N st (N 15 0) 0).toNat) := by
  have w1 := hW.1
  have := m_seen_L hS hW hN hst (fun p22 => zb p22 (some p22)) (N 15 0) 0 400 true (by omega) (by omega)
  rw [Bool.true_and, q_zb] at this
  exact this
end
section
/-! the model folds a bolt -/
theorem m_fa_L {n b k i : Nat} (hn : n ≤ 5) (hb : b < n) (K Y : Nat → Nat) (hK : ∀ c, c < n → K c < 3) (hY : ∀ c, c < n → Y c ≤ 4) (hk : k < 3) (hi : Y b = i) (i2 i3 : Int32) : ∀ (d t f : Nat) (S : M2), t + d = n → d < f → S 3 0 = nI n → (∀ c, c < n → S 1 (6 * c + 4) = nI (K c)) → (∀ c, c < n → S 1 (6 * c + 5) = nI (if c < t then (if K c = k ∧ i < Y c then Y c - 1 else Y c) else Y c)) → ∃ S', (∀ kk : M2 → Option M2, fX5_folds_L11 (nI b) i2 i3 (nI k) kk f (nI t) S = kk S') ∧ (∀ q, q ≠ 1 → S' q = S q) ∧ (∀ c, c < n → S' 1 (6 * c + 5) = nI (if K c = k ∧ i < Y c then Y c - 1 else Y c)) ∧ ∀ x, (∀ c, c < n → x ≠ 6 * c + 5) → S' 1 x = S 1 x
  | 0, t, f + 1, S, hd, hf, h3, h4, h5 => by
    have e : t = n := by omega
    subst e
    refine ⟨S, fun kk => ?_, fun _ _ => rfl, fun c hc => ?_, fun _ _ => rfl⟩
    · simp (disch := omega) only [fX5_folds_L11, lt, jn, q_lit, q_bnd, q_cl, q_le, q_lt, q_eq, pk_mul, nI_add, q_sub, q_div, q_pos, q_neg, q_T, q_F, q_max0, q_flg1, q_flg0, q_min, q_min2, q_bit, q_some, h3]
    · rw [h5 c hc, if_pos hc]
  | d + 1, t, f + 1, S, hd, hf, h3, h4, h5 => by
    have ht : t < n := by omega
    have yt := hY t ht
    have yb := hY b hb
    have kt := hK t ht
    have e4 := h4 t ht
    have e5 := h5 t ht
    have e5b := h5 b hb
    rw [if_neg (by omega)] at e5
    have hbi : (if b < t then (if K b = k ∧ i < Y b then Y b - 1 else Y b) else Y b) = i := by
      split
      · rw [if_neg (by omega)]
        exact hi
      · exact hi
    rw [hbi] at e5b
    have hi4 : i ≤ 4 := by omega
    obtain ⟨S', i1, i2', i3', i4⟩ := m_fa_L hn hb K Y hK hY hk hi i2 i3 d (t + 1) f (va_up S 1 (upd (S 1) (6 * t + 5) (nI (if K t = k ∧ i < Y t then Y t - 1 else Y t)))) (by omega) (by omega) h3 (fun c hc => by rw [q_up, if_pos rfl, q_ud, if_neg (by omega)]; exact h4 c hc) (fun c hc => by
      rw [q_up, if_pos rfl, q_ud]
      by_cases e : c = t
      · subst e
        rw [if_pos rfl, if_pos (show c < c + 1 by omega)]
      · rw [if_neg (by omega), h5 c hc]
        by_cases e2 : c < t
        · rw [if_pos e2, if_pos (show c < t + 1 by omega)]
        · rw [if_neg e2, if_neg (show ¬ c < t + 1 by omega)])
    refine ⟨S', fun kk => ?_, fun q hq => by rw [i2' q hq, q_up, if_neg hq], i3', fun x hx => by rw [i4 x hx, q_up, if_pos rfl, q_ud, if_neg (hx t ht)]⟩
    rw [← i1 kk]
    simp (disch := omega) only [fX5_folds_L11, fX5_of, fX5_becomesOf, lt, jn, q_lit, q_bnd, q_cl, q_le, q_lt, q_eq, pk_mul, nI_add, q_sub, q_div, q_pos, q_neg, q_T, q_F, q_max0, q_flg1, q_flg0, q_min, q_min2, q_bit, q_some, h3, e4, e5, e5b]
    by_cases e1 : K t = k
    · by_cases e2 : Y t ≤ i
      · rw [if_pos e1, if_pos e2, if_neg (by omega), Nat.sub_zero]
      · rw [if_pos e1, if_neg e2, if_pos (by omega)]
    · rw [if_neg e1, if_neg (by omega), Nat.sub_zero]
theorem m_fb_L {n k2 : Nat} (hn : n ≤ 5) (C : Nat → Bool) (Y : Nat → Nat) (i1 : Int32) (p : Bool) : ∀ (d t f : Nat) (S : M2), t + d = n → d < f → S 3 0 = nI n → (∀ c, c < n → (S 1 (6 * c + 4) = nI k2) = (C c = true)) → (∀ c, c < n → S 1 (6 * c + 5) = nI (if c < t then Y c + (p && C c).toNat else Y c)) → ∃ S', (∀ kk : M2 → Option M2, fX5_folds_L92 i1 (nI k2) (nI p.toNat) kk f (nI t) S = kk S') ∧ (∀ q, q ≠ 1 → S' q = S q) ∧ (∀ c, c < n → S' 1 (6 * c + 5) = nI (Y c + (p && C c).toNat)) ∧ ∀ x, (∀ c, c < n → x ≠ 6 * c + 5) → S' 1 x = S 1 x
  | 0, t, f + 1, S, hd, hf, h3, h4, h5 => by
    have e : t = n := by omega
    subst e
    refine ⟨S, fun kk => ?_, fun _ _ => rfl, fun c hc => ?_, fun _ _ => rfl⟩
    · simp (disch := omega) only [fX5_folds_L92, lt, jn, q_lit, q_bnd, q_cl, q_le, q_lt, q_eq, pk_mul, nI_add, q_sub, q_div, q_pos, q_neg, q_T, q_F, q_max0, q_flg1, q_flg0, q_min, q_min2, q_bit, q_some, h3]
    · rw [h5 c hc, if_pos hc]
  | d + 1, t, f + 1, S, hd, hf, h3, h4, h5 => by
    have ht : t < n := by omega
    have e4 := h4 t ht
    have e5 := h5 t ht
    rw [if_neg (by omega)] at e5
    obtain ⟨S', i1', i2', i3', i4⟩ := m_fb_L hn C Y i1 p d (t + 1) f (va_up S 1 (upd (S 1) (6 * t + 5) (nI (Y t + (p && C t).toNat)))) (by omega) (by omega) h3 (fun c hc => by rw [q_up, if_pos rfl, q_ud, if_neg (by omega)]; exact h4 c hc) (fun c hc => by
      rw [q_up, if_pos rfl, q_ud]
      by_cases e : c = t
      · subst e
        rw [if_pos rfl, if_pos (show c < c + 1 by omega)]
      · rw [if_neg (by omega), h5 c hc]
        by_cases e2 : c < t
        · rw [if_pos e2, if_pos (show c < t + 1 by omega)]
        · rw [if_neg e2, if_neg (show ¬ c < t + 1 by omega)])
    refine ⟨S', fun kk => ?_, fun q hq => by rw [i2' q hq, q_up, if_neg hq], i3', fun x hx => by rw [i4 x hx, q_up, if_pos rfl, q_ud, if_neg (hx t ht)]⟩
    rw [← i1' kk]
    simp (disch := omega) only [fX5_folds_L92, fX5_of, fX5_becomesOf, lt, jn, q_lit, q_bnd, q_cl, q_le, q_lt, q_eq, pk_mul, nI_add, q_sub, q_div, q_pos, q_neg, q_T, q_F, q_max0, q_flg1, q_flg0, q_min, q_min2, q_bit, q_some, h3, e4, e5, q_b0]
    cases p
    · rw [if_pos rfl]
      rfl
    · rw [if_neg (by decide)]
      by_cases e : C t = true
      · rw [if_pos e, e]
        rfl
      · have e' : C t = false := by simpa using e
        rw [if_neg e, e']
        rfl
/-- where each bolt lies -/
theorem WB.loc {n : Nat} {B : BB} (h : WB n B) : ∃ K Y : Nat → Nat, (∀ c, c < n → K c < 3 ∧ (B (K c))[Y c]? = some c) ∧ ∀ k j c, k < 3 → (B k)[j]? = some c → K c = k ∧ Y c = j := by
  have : ∀ c, ∃ p : Nat × Nat, c < n → p.1 < 3 ∧ (B p.1)[p.2]? = some c := by
    intro c
    by_cases hc : c < n
    · obtain ⟨k, i, h1, h2⟩ := h.ex hc
      exact ⟨(k, i), fun _ => ⟨h1, h2⟩⟩
    · exact ⟨(0, 0), fun q => absurd q hc⟩
  have ⟨p, hp⟩ := Classical.axiomOfChoice this
  refine ⟨fun c => (p c).1, fun c => (p c).2, hp, fun k j c hk hj => ?_⟩
  have h1 := hp c (h.lt hk (List.mem_of_getElem? hj))
  exact h.at h1.1 hk h1.2 hj
theorem take_at {n : Nat} {B : BB} (h : WB n B) {k i b k' j c : Nat} (hk : k < 3) (hk' : k' < 3) (hb : (B k)[i]? = some b) (hc : (spTake B k i k')[j]? = some c) {K Y : Nat → Nat} (hL : ∀ k j c, k < 3 → (B k)[j]? = some c → K c = k ∧ Y c = j) : c ≠ b ∧ K c = k' ∧ (if K c = k ∧ i < Y c then Y c - 1 else Y c) = j ∧ c < n := by
  have lb := hL k i b hk hb
  rw [spTake, q_up] at hc
  by_cases e : k' = k
  · subst e
    rw [if_pos rfl, List.getElem?_eraseIdx] at hc
    by_cases e2 : j < i
    · rw [if_pos e2] at hc
      have lc := hL k' j c hk' hc
      refine ⟨fun q => ?_, lc.1, ?_, h.lt hk' (List.mem_of_getElem? hc)⟩
      · subst q
        omega
      · rw [if_neg (by omega)]
        exact lc.2
    · rw [if_neg e2] at hc
      have lc := hL k' (j + 1) c hk' hc
      refine ⟨fun q => ?_, lc.1, ?_, h.lt hk' (List.mem_of_getElem? hc)⟩
      · subst q
        omega
      · rw [if_pos (by omega), lc.2]
        rfl
  · rw [if_neg e] at hc
    have lc := hL k' j c hk' hc
    refine ⟨fun q => ?_, lc.1, ?_, h.lt hk' (List.mem_of_getElem? hc)⟩
    · subst q
      omega
    · rw [if_neg (by omega)]
      exact lc.2
theorem take_cnt {n : Nat} {B : BB} (h : WB n B) {k i b k2 : Nat} (hk : k < 3) (hk2 : k2 < 3) (hb : (B k)[i]? = some b) {K Y : Nat → Nat} (hp : ∀ c, c < n → K c < 3 ∧ (B (K c))[Y c]? = some c) (hL : ∀ k j c, k < 3 → (B k)[j]? = some c → K c = k ∧ Y c = j) : spSum (fun c => (decide (K c = k2) && decide (c ≠ b)).toNat) n = (spTake B k i k2).length := by
  rw [← sum_count n (spTake B k i k2)]
  · refine sum_congr fun c hc => ?_
    have e1 := cnt_out _ _ _ c hb
    have e2 : (spTake B k i k2).count c = (if k2 = k then (B k).eraseIdx i else B k2).count c := by rw [spTake, q_up]
    rw [e2]
    have h1 := hp c hc
    have n1 := (h.nodup hk2).count (a := c)
    have m1 : c ∈ B k2 ↔ K c = k2 := ⟨fun q => by
      obtain ⟨j, hj⟩ := List.mem_iff_getElem?.mp q
      exact (hL k2 j c hk2 hj).1, fun q => by
      rw [← q]
      exact List.mem_of_getElem? h1.2⟩
    have lb := hL k i b hk hb
    by_cases e : k2 = k
    · subst e
      rw [if_pos rfl]
      by_cases e3 : K c = k2
      · rw [if_pos (m1.mpr e3)] at n1
        by_cases e4 : c = b
        · rw [if_pos e4] at e1
          have : ((B k2).eraseIdx i).count c = 0 := by omega
          rw [this]
          simp [e4]
        · rw [if_neg e4] at e1
          have : ((B k2).eraseIdx i).count c = 1 := by omega
          rw [this]
          simp [e3, e4]
      · rw [if_neg fun q => e3 (m1.mp q)] at n1
        have : ((B k2).eraseIdx i).count c = 0 := by omega
        rw [this]
        simp [e3]
    · rw [if_neg e, n1]
      by_cases e3 : K c = k2
      · rw [if_pos (m1.mpr e3)]
        have e4 : c ≠ b := fun q => by
          subst q
          omega
        simp [e3, e4]
      · rw [if_neg fun q => e3 (m1.mp q)]
        simp [e3]
  · intro x hx
    rw [spTake, q_up] at hx
    split at hx
    · exact h.lt hk (List.mem_of_mem_eraseIdx hx)
    · exact h.lt hk2 hx
theorem m_folds {N : NN} {B : BB} {S0 S : M2} (hS : MA N B S0 S) (hW : WF N B) {k k2 b i : Nat} (hk : k < 3) (hk2 : k2 < 3) (hb : (B k)[i]? = some b) (p : Bool) : ∃ S', fX5_folds (nI b) (nI k2) (nI p.toNat) S = some S' ∧ MA N (if p = true then spTop (spTake B k i) k2 b else spBot (spTake B k i) k2 b) S0 S' := by
  have w1 := hW.1
  have hB := hW.2.2.2.2
  have hbn := hB.lt hk (List.mem_of_getElem? hb)
  obtain ⟨K, Y, hp, hL⟩ := hB.loc
  have lb := hL k i b hk hb
  have hY : ∀ c, c < N 0 0 → Y c ≤ 4 := fun c hc => by
    have h1 := hp c hc
    have h2 := l_lt h1.2
    have h3 := hB.le h1.1
    omega
  obtain ⟨h0, g3, g4, ⟨a1, a2, a3, a4⟩, h5, h6, h7, h8⟩ := id hS
  obtain ⟨S1, s1, s2, s3, s4⟩ := m_fa_L (n := N 0 0) (b := b) (k := k) (i := i) (by omega) hbn K Y (fun c hc => (hp c hc).1) hY hk lb.2 (nI k2) (nI p.toNat) (N 0 0) 0 400 S (by omega) (by omega) hS.n (fun c hc => (h8 _ (hp c hc).1 _ c (hp c hc).2).1) (fun c hc => by rw [if_neg (Nat.not_lt_zero c)]; exact (h8 _ (hp c hc).1 _ c (hp c hc).2).2)
  have hC : ∀ c, c < N 0 0 → (va_up S1 1 (upd (S1 1) (6 * b + 4) (-4)) 1 (6 * c + 4) = nI k2) = ((decide (K c = k2) && decide (c ≠ b)) = true) := by
    intro c hc
    rw [q_up, if_pos rfl, q_ud]
    by_cases e : c = b
    · subst e
      rw [if_pos rfl]
      have : ¬ (-4 : Int32) = nI k2 := by rcases wb_cases hk2 with rfl | rfl | rfl <;> decide
      simp [this]
    · rw [if_neg (by omega), s4 _ (by omega), (h8 _ (hp c hc).1 _ c (hp c hc).2).1, q_eq (by have := (hp c hc).1; omega)]
      simp [e]
  obtain ⟨S2, u1, u2, u3, u4⟩ := m_fb_L (n := N 0 0) (k2 := k2) (by omega) (fun c => decide (K c = k2) && decide (c ≠ b)) (fun c => if K c = k ∧ i < Y c then Y c - 1 else Y c) (nI b) p (N 0 0) 0 400 (va_up S1 1 (upd (S1 1) (6 * b + 4) (-4))) (by omega) (by omega) (by rw [q_up, if_neg (by decide), s2 3 (by decide)]; exact hS.n) hC (fun c hc => by
    rw [if_neg (Nat.not_lt_zero c), q_up, if_pos rfl, q_ud, if_neg (by omega)]
    exact s3 c hc)
  have n2 : S2 3 0 = nI (N 0 0) := by rw [u2 3 (by decide), q_up, if_neg (by decide), s2 3 (by decide)]; exact hS.n
  have lies : fX5_liesIn (nI k2) S2 = some (nI (spTake B k i k2).length) := by
    have := m_lies_L n2 w1.1 (c := fun c => decide (K c = k2) && decide (c ≠ b)) (fun c hc => by rw [u4 _ (by omega)]; exact hC c hc) (fun p => some p) (N 0 0) 0 400 (by omega) (by omega)
    rw [take_cnt hB hk hk2 hb hp hL] at this
    exact this
  have e4 : S 1 (6 * b + 4) = nI k := (h8 k hk i b hb).1
  refine ⟨va_up S2 1 (upd (upd (S2 1) (6 * b + 4) (nI k2)) (6 * b + 5) (nI (if p = true then 0 else (spTake B k i k2).length))), ?_, ?_⟩
  · unfold fX5_folds
    have e9 : fX5_liesIn (nI k2) S2 = some (nI (spTake B k i k2).length) := lies
    simp (disch := omega) only [fX5_of, fX5_becomesOf, lt, q_lit, q_bnd, q_cl, pk_mul, nI_add, q_some, e4, s1]
    have e10 : (-nI 4) = (-4 : Int32) := by decide
    rw [e10]
    simp (disch := omega) only [u1, q_some, e9, q_up, q_T]
    rw [up_up, up_up]
    cases p
    · rfl
    · rfl
  · have hfin : ∀ c, c < N 0 0 → c ≠ b → va_up S2 1 (upd (upd (S2 1) (6 * b + 4) (nI k2)) (6 * b + 5) (nI (if p = true then 0 else (spTake B k i k2).length))) 1 (6 * c + 4) = nI (K c) ∧ va_up S2 1 (upd (upd (S2 1) (6 * b + 4) (nI k2)) (6 * b + 5) (nI (if p = true then 0 else (spTake B k i k2).length))) 1 (6 * c + 5) = nI ((if K c = k ∧ i < Y c then Y c - 1 else Y c) + (p && (decide (K c = k2) && decide (c ≠ b))).toNat) := by
      intro c hc e
      rw [q_up, if_pos rfl, q_ud, if_neg (by omega), q_ud, if_neg (by omega), q_ud, if_neg (by omega), q_ud, if_neg (by omega), u4 _ (by omega), q_up, if_pos rfl, q_ud, if_neg (by omega), s4 _ (by omega)]
      exact ⟨(h8 _ (hp c hc).1 _ c (hp c hc).2).1, u3 c hc⟩
    have hrest : ∀ x, (∀ c, c < N 0 0 → x ≠ 6 * c + 5 ∧ x ≠ 6 * c + 4) → va_up S2 1 (upd (upd (S2 1) (6 * b + 4) (nI k2)) (6 * b + 5) (nI (if p = true then 0 else (spTake B k i k2).length))) 1 x = S 1 x := by
      intro x hx
      have hx1 := hx b hbn
      rw [q_up, if_pos rfl, q_ud, if_neg hx1.1, q_ud, if_neg hx1.2, u4 x fun c hc => (hx c hc).1, q_up, if_pos rfl, q_ud, if_neg hx1.2, s4 x fun c hc => (hx c hc).1]
    refine ⟨fun q hq => ?_, g3, g4, ⟨?_, ?_, ?_, ?_⟩, fun b' hb' => ⟨?_, ?_, ?_, ?_⟩, fun m hm => ⟨?_, ?_, ?_, ?_⟩, fun i hi => ⟨?_, ?_⟩, fun k' hk' j c hc => ?_⟩
    · rw [q_up, if_neg hq, u2 q hq, q_up, if_neg hq, s2 q hq]
      exact h0 q hq
    · rw [hrest _ (by omega)]; exact a1
    · rw [hrest _ (by omega)]; exact a2
    · rw [hrest _ (by omega)]; exact a3
    · rw [hrest _ (by omega)]; exact a4
    · rw [hrest _ (by omega)]; exact (h5 b' hb').1
    · rw [hrest _ (by omega)]; exact (h5 b' hb').2.1
    · rw [hrest _ (by omega)]; exact (h5 b' hb').2.2.1
    · rw [hrest _ (by omega)]; exact (h5 b' hb').2.2.2
    · rw [hrest _ (by omega)]; exact (h6 m hm).1
    · rw [hrest _ (by omega)]; exact (h6 m hm).2.1
    · rw [hrest _ (by omega)]; exact (h6 m hm).2.2.1
    · rw [hrest _ (by omega)]; exact (h6 m hm).2.2.2
    · rw [hrest _ (by omega)]; exact (h7 i hi).1
    · rw [hrest _ (by omega)]; exact (h7 i hi).2
    · have old : ∀ j, (spTake B k i k')[j]? = some c → va_up S2 1 (upd (upd (S2 1) (6 * b + 4) (nI k2)) (6 * b + 5) (nI (if p = true then 0 else (spTake B k i k2).length))) 1 (6 * c + 4) = nI k' ∧ va_up S2 1 (upd (upd (S2 1) (6 * b + 4) (nI k2)) (6 * b + 5) (nI (if p = true then 0 else (spTake B k i k2).length))) 1 (6 * c + 5) = nI (j + (p && decide (k' = k2)).toNat) := by
        intro j hc
        obtain ⟨t1, t2, t3, t4⟩ := take_at hB hk hk' hb hc hL
        obtain ⟨f1, f2⟩ := hfin c t4 t1
        rw [f1, f2, t3, t2]
        refine ⟨rfl, ?_⟩
        simp [t1]
      have new : va_up S2 1 (upd (upd (S2 1) (6 * b + 4) (nI k2)) (6 * b + 5) (nI (if p = true then 0 else (spTake B k i k2).length))) 1 (6 * b + 4) = nI k2 ∧ va_up S2 1 (upd (upd (S2 1) (6 * b + 4) (nI k2)) (6 * b + 5) (nI (if p = true then 0 else (spTake B k i k2).length))) 1 (6 * b + 5) = nI (if p = true then 0 else (spTake B k i k2).length) := by
        rw [q_up, if_pos rfl, q_ud, if_neg (by omega), q_ud, if_pos rfl, q_ud, if_pos rfl]
        exact ⟨rfl, rfl⟩
      cases p
      · rw [if_neg (by decide), spBot, q_up] at hc
        by_cases e : k' = k2
        · subst e
          rw [if_pos rfl, List.getElem?_append] at hc
          by_cases e2 : j < (spTake B k i k').length
          · rw [if_pos e2] at hc
            exact old j hc
          · rw [if_neg e2] at hc
            have e3 : j = (spTake B k i k').length := by
              have := l_lt hc
              rw [List.length_singleton] at this
              omega
            subst e3
            rw [Nat.sub_self, List.getElem?_cons_zero, Option.some.injEq] at hc
            subst hc
            exact new
        · rw [if_neg e] at hc
          have := old j hc
          rw [decide_eq_false e] at this
          exact this
      · rw [if_pos rfl, spTop, q_up] at hc
        by_cases e : k' = k2
        · subst e
          rw [if_pos rfl] at hc
          match j, hc with
          | 0, hc =>
            simp only [List.getElem?_cons_zero, Option.some.injEq] at hc
            subst hc
            exact new
          | j + 1, hc =>
            simp only [List.getElem?_cons_succ] at hc
            have := old j hc
            rw [decide_eq_true rfl] at this
            exact this
        · rw [if_neg e] at hc
          have := old j hc
          rw [decide_eq_false e] at this
          exact this
end
section
/-! the relation of the two states -/
def RN (N : NN) (B : BB) (X2 : M2) (r : Nat → Int32) (s3 s4 : Int32) : Prop := WF N B ∧ N 14 0 ≤ 999 ∧ CS N B X2 ∧ MS N B r ∧ s3 = nI (N 0 0) ∧ s4 = nI (N 7 0)
def RK (N : NN) (kept : Int32) (im : Nat → M2) (st : Nat → Int32) (isk : Nat → Int32) : Prop := ∃ kp : Nat, kp < 4 ∧ kept = nI kp ∧ ∀ k, k < 2 → isk k = nI (kp.testBit k).toNat ∧ (kp.testBit k = true → ∃ (N' : NN) (B' : BB), WF N' B' ∧ N' 14 0 ≤ 999 ∧ N' 0 0 = N 0 0 ∧ N' 7 0 = N 7 0 ∧ CS N' B' (im k) ∧ MS N' B' (fun x => st (62 * (k + 1) + x)))
def im2 (a b : M2) (k : Nat) : M2 := if k = 0 then a else b
def sh4 (a b c d : M2) (k : Nat) : M2 := if k = 0 then a else if k = 1 then b else if k = 2 then c else d
theorem im2_x {X : M3} {k : Nat} (h : k < 2) : im2 (X 4) (X 5) k = X (4 + k) := by
  rcases (by omega : k = 0 ∨ k = 1) with rfl | rfl <;> rfl
theorem sh4_x {X : M3} {k : Nat} (h : k < 4) : sh4 (X 6) (X 7) (X 8) (X 9) k = X (6 + k) := by
  rcases (by omega : k = 0 ∨ k = 1 ∨ k = 2 ∨ k = 3) with rfl | rfl | rfl | rfl <;> rfl
def RT (T : M2) (tp : Nat → Int32) (s12 s17 : Int32) : Prop := (∃ n, n ≤ 160 ∧ T 1 0 = nI n ∧ s12 = nI n ∧ ∀ i, i < n → ∃ c, c < 128 ∧ T 0 i = nI c ∧ tp i = nI c) ∧ T 2 0 = s17
def RS (sh : Nat → M2) (lanes sizes cells : Nat → Int32) : Prop := ∀ k, k < 4 → (sh k 0 0 = nI 0 ∧ lanes k = -4) ∨ (sh k 0 0 = nI 1 ∧ ∃ l n : Nat, l < 3 ∧ n ≤ 40 ∧ sh k 1 0 = nI l ∧ lanes k = nI l ∧ sh k 2 0 = nI n ∧ sizes k = nI n ∧ ∀ i, i < n → sh k 3 i = cells (40 * k + i))
def R (X : M3) (S : M2) : Prop := (∃ N B, RN N B (X 2) (S 0) (S 3 0) (S 4 0) ∧ RK N (X 0 6 0) (im2 (X 4) (X 5)) (S 0) (S 2)) ∧ RT (X 1) (S 11) (S 12 0) (S 17 0) ∧ RS (sh4 (X 6) (X 7) (X 8) (X 9)) (S 20) (S 21) (S 22) ∧ X 0 7 0 = S 23 0
theorem R.me {X : M3} {S S' : M2} (h : R X S) (e : ME S S') : R X S' := by
  have e0 := e 0 (by decide)
  have e2 := e 2 (by decide)
  have e3 := e 3 (by decide)
  have e4 := e 4 (by decide)
  have e11 := e 11 (by decide)
  have e12 := e 12 (by decide)
  have e17 := e 17 (by decide)
  have e20 := e 20 (by decide)
  have e21 := e 21 (by decide)
  have e22 := e 22 (by decide)
  have e23 := e 23 (by decide)
  unfold R at h ⊢
  rw [e0, e2, e3, e4, e11, e12, e17, e20, e21, e22, e23]
  exact h
theorem R.xe {X X' : M3} {S : M2} (h : R X S) (e : ∀ k, k ≠ 3 → k ≠ 10 → k ≠ 11 → X' k = X k) : R X' S := by
  have e0 := e 0 (by decide) (by decide) (by decide)
  have e1 := e 1 (by decide) (by decide) (by decide)
  have e2 := e 2 (by decide) (by decide) (by decide)
  have e4 := e 4 (by decide) (by decide) (by decide)
  have e5 := e 5 (by decide) (by decide) (by decide)
  have e6 := e 6 (by decide) (by decide) (by decide)
  have e7 := e 7 (by decide) (by decide) (by decide)
  have e8 := e 8 (by decide) (by decide) (by decide)
  have e9 := e 9 (by decide) (by decide) (by decide)
  unfold R at h ⊢
  rw [e0, e1, e2, e4, e5, e6, e7, e8, e9]
  exact h
theorem ME.ma {N : NN} {B : BB} {S0 S : M2} (h : MA N B S0 S) : ME S0 S := h.1
theorem xe3 {X : M3} {q : M2} : ∀ k, k ≠ 3 → k ≠ 10 → k ≠ 11 → va_up X 3 q k = X k := fun k h _ _ => by rw [q_up, if_neg h]
/-- from the model's state between two calls -/
theorem RN.starts {N : NN} {B : BB} {X2 : M2} {S : M2} (h : RN N B X2 (S 0) (S 3 0) (S 4 0)) : ∃ S', fX5_starts S = some S' ∧ MA N B S S' ∧ SN N S' := by
  obtain ⟨S', i1, i2⟩ := m_starts (S0 := S) (S := S) (fun _ _ => rfl) h.2.2.2.2.1 h.2.2.2.2.2 h.2.2.2.1 h.1
  refine ⟨S', i1, i2, ?_, fun i hi => ?_⟩
  · rw [i2.1 0 (by decide)]
    exact h.2.2.2.1.1.2.2.2
  · rw [i2.1 0 (by decide)]
    exact h.2.2.2.1.2.2.2.1 i hi
/-! calls -/
theorem k_feed {X : M3} {S : M2} (h : R X S) (x : Int32) : ∃ a X' S', fX4_feed x X = some (a, X') ∧ fX5_feed x S = some (a, S') ∧ R X' S' := by
  obtain ⟨h1, ⟨⟨n, n1, n2, n3, n4⟩, h2⟩, h3, h4⟩ := id h
  rcases q_within x (a := 0) (b := 127) (by omega) with ⟨j, j1, j2, rfl⟩ | ⟨j1, j2⟩
  · by_cases hn : n < 160
    · refine ⟨nI (n + 1), va_up X 1 (va_up (va_up (X 1) 0 (upd (X 1 0) n (nI j))) 1 (fun _ => nI (n + 1))), va_up (va_up S 11 (upd (S 11) n (nI j))) 12 (fun _ => nI (n + 1)), ?_, ?_, ?_⟩
      · simp (disch := omega) only [fX4_feed, q_win, lt, jn, q_lit, q_bnd, q_cl, q_le, q_lt, q_eq, pk_mul, nI_add, q_sub, q_div, q_pos, q_neg, q_T, q_F, q_max0, q_flg1, q_flg0, q_min, q_min2, q_bit, q_some, n2, q_up, up_up]
      · simp (disch := omega) only [fX5_feed, q_in_0_127, q_in_0_1, q_in_0_2, q_in_0_3, q_in_0_4, q_in_0_5, q_in_0_9, q_in_0_10, q_in_0_20, q_in_1_20, q_in_48_57, q_in_97_122, q_inB, q_win, lt, jn, q_lit, q_bnd, q_cl, q_le, q_lt, q_eq, pk_mul, nI_add, q_sub, q_div, q_pos, q_neg, q_T, q_F, q_max0, q_flg1, q_flg0, q_min, q_min2, q_bit, q_some, n3, q_up]
      · refine ⟨h1, ⟨⟨n + 1, by omega, rfl, rfl, fun i hi => ?_⟩, h2⟩, h3, h4⟩
        show ∃ c, c < 128 ∧ upd (X 1 0) n (nI j) i = nI c ∧ upd (S 11) n (nI j) i = nI c
        rw [q_ud, q_ud]
        by_cases e : i = n
        · rw [if_pos e, if_pos e]
          exact ⟨j, by omega, rfl, rfl⟩
        · rw [if_neg e, if_neg e]
          exact n4 i (by omega)
    · refine ⟨-3, X, S, ?_, ?_, h⟩
      · simp (disch := omega) only [fX4_feed, q_win, lt, jn, q_lit, q_bnd, q_cl, q_le, q_lt, q_eq, pk_mul, nI_add, q_sub, q_div, q_pos, q_neg, q_T, q_F, q_max0, q_flg1, q_flg0, q_min, q_min2, q_bit, q_some, n2]
      · simp (disch := omega) only [fX5_feed, q_in_0_127, q_in_0_1, q_in_0_2, q_in_0_3, q_in_0_4, q_in_0_5, q_in_0_9, q_in_0_10, q_in_0_20, q_in_1_20, q_in_48_57, q_in_97_122, q_inB, q_win, lt, jn, q_lit, q_bnd, q_cl, q_le, q_lt, q_eq, pk_mul, nI_add, q_sub, q_div, q_pos, q_neg, q_T, q_F, q_max0, q_flg1, q_flg0, q_min, q_min2, q_bit, q_some, n3]
  · refine ⟨-1, X, S, ?_, ?_, h⟩
    · simp (disch := omega) only [fX4_feed, lt, jn, q_lit, q_bnd, q_cl, q_le, q_lt, q_eq, pk_mul, nI_add, q_sub, q_div, q_pos, q_neg, q_T, q_F, q_max0, q_flg1, q_flg0, q_min, q_min2, q_bit, q_some, j2]
    · simp (disch := omega) only [fX5_feed, q_in_0_127, q_in_0_1, q_in_0_2, q_in_0_3, q_in_0_4, q_in_0_5, q_in_0_9, q_in_0_10, q_in_0_20, q_in_1_20, q_in_48_57, q_in_97_122, q_inB, lt, jn, q_lit, q_bnd, q_cl, q_le, q_lt, q_eq, pk_mul, nI_add, q_sub, q_div, q_pos, q_neg, q_T, q_F, q_max0, q_flg1, q_flg0, q_min, q_min2, q_bit, q_some, j2]
theorem k_end {X : M3} {S : M2} (h : R X S) (x : Int32) : ∃ a X' S', fX4_end x X = some (a, X') ∧ fX5_end x S = some (a, S') ∧ R X' S' := by
  obtain ⟨h1, ⟨⟨n, n1, n2, n3, n4⟩, h2⟩, h3, h4⟩ := id h
  rcases q_within x (a := 0) (b := n) (by omega) with ⟨j, j1, j2, rfl⟩ | ⟨j1, j2⟩
  · refine ⟨nI n, va_up X 1 (va_up (X 1) 1 (fun _ => nI j)), va_up S 12 (fun _ => nI j), ?_, ?_, h1, ⟨⟨j, by omega, rfl, rfl, fun i hi => n4 i (by omega)⟩, h2⟩, h3, h4⟩
    · simp (disch := omega) only [fX4_end, q_win, lt, jn, q_lit, q_bnd, q_cl, q_le, q_lt, q_eq, pk_mul, nI_add, q_sub, q_div, q_pos, q_neg, q_T, q_F, q_max0, q_flg1, q_flg0, q_min, q_min2, q_bit, q_some, n2]
    · simp (disch := omega) only [fX5_end, q_in_0_127, q_in_0_1, q_in_0_2, q_in_0_3, q_in_0_4, q_in_0_5, q_in_0_9, q_in_0_10, q_in_0_20, q_in_1_20, q_in_48_57, q_in_97_122, q_inB, q_win, lt, jn, q_lit, q_bnd, q_cl, q_le, q_lt, q_eq, pk_mul, nI_add, q_sub, q_div, q_pos, q_neg, q_T, q_F, q_max0, q_flg1, q_flg0, q_min, q_min2, q_bit, q_some, n3]
  · refine ⟨-1, X, S, ?_, ?_, h⟩
    · simp (disch := omega) only [fX4_end, lt, jn, q_lit, q_bnd, q_cl, q_le, q_lt, q_eq, pk_mul, nI_add, q_sub, q_div, q_pos, q_neg, q_T, q_F, q_max0, q_flg1, q_flg0, q_min, q_min2, q_bit, q_some, n2, j2]
    · simp (disch := omega) only [fX5_end, q_in_0_127, q_in_0_1, q_in_0_2, q_in_0_3, q_in_0_4, q_in_0_5, q_in_0_9, q_in_0_10, q_in_0_20, q_in_1_20, q_in_48_57, q_in_97_122, q_inB, lt, jn, q_lit, q_bnd, q_cl, q_le, q_lt, q_eq, pk_mul, nI_add, q_sub, q_div, q_pos, q_neg, q_T, q_F, q_max0, q_flg1, q_flg0, q_min, q_min2, q_bit, q_some, n3, j2]
theorem k_fault {X : M3} {S : M2} (h : R X S) : ∃ a, fX4_fault X = some a ∧ fX5_fault S = some a := ⟨_, rfl, by unfold fX5_fault; rw [← h.2.1.2]⟩
theorem k_torn {X : M3} {S : M2} (h : R X S) : ∃ a, fX4_torn X = some a ∧ fX5_torn S = some a := ⟨_, rfl, by unfold fX5_torn; rw [← h.2.2.2]⟩
theorem spBits_at (p : Nat → Bool) (i : Nat) : ∀ n : Nat, (spBits p n).testBit i = (decide (i < n) && p i)
  | 0 => by simp [spBits]
  | n + 1 => by
    rw [spBits]
    by_cases e : p n = true
    · rw [if_pos e, Nat.testBit_or, spBits_at p i n, Nat.testBit_two_pow]
      by_cases e2 : n = i
      · subst e2
        simp [e]
      · have e3 : (i < n + 1) = (i < n) := propext ⟨fun _ => by omega, fun _ => by omega⟩
        simp [e2, e3]
    · rw [if_neg e, spBits_at p i n]
      by_cases e2 : n = i
      · subst e2
        simp [e]
      · have e3 : (i < n + 1) = (i < n) := propext ⟨fun _ => by omega, fun _ => by omega⟩
        simp [e3]
theorem spBits_self {c n : Nat} (h : c < 2 ^ n) : spBits c.testBit n = c := by
  apply Nat.eq_of_testBit_eq
  intro i
  rw [spBits_at]
  by_cases e : i < n
  · simp [e]
  · have : c.testBit i = false := Nat.testBit_lt_two_pow (Nat.lt_of_lt_of_le h (Nat.pow_le_pow_right (by decide) (by omega)))
    simp [e, this]
theorem m_cam_L {N : NN} {B : BB} {S0 S : M2} (hS : MA N B S0 S) (hW : WF N B) (i1 : Int32) (kk : Int32 → Option (Int32 × M2)) : ∀ d b f : Nat, b + d = N 0 0 → d < f → fX5_rule_L8 i1 S kk f (nI (spBits (N 4 0).testBit b)) (nI b) = kk (nI (N 4 0))
  | 0, b, f + 1, hb, hf => by
    have w1 := hW.1
    have e : b = N 0 0 := by omega
    subst e
    rw [spBits_self w1.2.2.1]
    simp (disch := omega) only [fX5_rule_L8, lt, jn, q_lit, q_bnd, q_cl, q_le, q_lt, q_eq, pk_mul, nI_add, q_sub, q_div, q_pos, q_neg, q_T, q_F, q_max0, q_flg1, q_flg0, q_min, q_min2, q_bit, q_some, hS.n]
  | d + 1, b, f + 1, hb, hf => by
    have w1 := hW.1
    have h1 : b < N 0 0 := by omega
    have ih := m_cam_L hS hW i1 kk d (b + 1) f (by omega) (by omega)
    simp (disch := omega) only [fX5_rule_L8, fX5_of, lt, jn, q_lit, q_bnd, q_cl, q_le, q_lt, q_eq, pk_mul, nI_add, q_sub, q_div, q_pos, q_neg, q_T, q_F, q_max0, q_flg1, q_flg0, q_min, q_min2, q_bit, q_some, hS.n, (hS.2.2.2.2.1 b h1).2.2.2, q_orf]
    exact ih
theorem k_rule {X : M3} {S : M2} (h : R X S) (x : Int32) : ∃ a S', fX4_rule x X = some a ∧ fX5_rule x S = some (a, S') ∧ R X S' := by
  obtain ⟨⟨N, B, h1, h2⟩, -⟩ := id h
  obtain ⟨hW, hn, hC, hM, e3, e4⟩ := id h1
  have w1 := hW.1
  obtain ⟨S', i1, i2, -⟩ := h1.starts
  have cam := fun kk => m_cam_L i2 hW x kk (N 0 0) 0 400 (by omega) (by omega)
  rw [spBits] at cam
  have hR := h.me (ME.ma i2)
  have st : S' 0 = S 0 := i2.1 0 (by decide)
  have ee : fX5_eaten S' = some (nI (spBits (spEaten N) (N 0 0))) := m_eaten i2 hW
  have ec : fX1_eatenUp (X 2) = some (nI (spBits (spEaten N) (N 0 0))) := t_eatenUp hC hW
  obtain ⟨c0, c4, c7, c12, c13, c14, c15⟩ := hC.1
  obtain ⟨m46, m47, m48, m49⟩ := hM.1
  rcases q_within x (a := 0) (b := 6) (by omega) with ⟨j, -, j2, rfl⟩ | ⟨j1, -⟩
  · rcases (by omega : j = 0 ∨ j = 1 ∨ j = 2 ∨ j = 3 ∨ j = 4 ∨ j = 5 ∨ j = 6) with rfl | rfl | rfl | rfl | rfl | rfl | rfl
    · refine ⟨nI (N 0 0), S', ?_, ?_, hR⟩
      · simp (disch := omega) only [fX4_rule, lt, jn, q_lit, q_bnd, q_cl, q_le, q_lt, q_eq, pk_mul, nI_add, q_sub, q_div, q_pos, q_neg, q_T, q_F, q_max0, q_flg1, q_flg0, q_min, q_min2, q_bit, q_some, c0]
      · simp (disch := omega) only [fX5_rule, lt, jn, q_lit, q_bnd, q_cl, q_le, q_lt, q_eq, pk_mul, nI_add, q_sub, q_div, q_pos, q_neg, q_T, q_F, q_max0, q_flg1, q_flg0, q_min, q_min2, q_bit, q_some, i1, cam, i2.n]
    · refine ⟨nI (N 7 0), S', ?_, ?_, hR⟩
      · simp (disch := omega) only [fX4_rule, lt, jn, q_lit, q_bnd, q_cl, q_le, q_lt, q_eq, pk_mul, nI_add, q_sub, q_div, q_pos, q_neg, q_T, q_F, q_max0, q_flg1, q_flg0, q_min, q_min2, q_bit, q_some, c7]
      · simp (disch := omega) only [fX5_rule, lt, jn, q_lit, q_bnd, q_cl, q_le, q_lt, q_eq, pk_mul, nI_add, q_sub, q_div, q_pos, q_neg, q_T, q_F, q_max0, q_flg1, q_flg0, q_min, q_min2, q_bit, q_some, i1, cam, i2.m]
    · refine ⟨nI (N 12 0), S', ?_, ?_, hR⟩
      · simp (disch := omega) only [fX4_rule, lt, jn, q_lit, q_bnd, q_cl, q_le, q_lt, q_eq, pk_mul, nI_add, q_sub, q_div, q_pos, q_neg, q_T, q_F, q_max0, q_flg1, q_flg0, q_min, q_min2, q_bit, q_some, c12]
      · simp (disch := omega) only [fX5_rule, lt, jn, q_lit, q_bnd, q_cl, q_le, q_lt, q_eq, pk_mul, nI_add, q_sub, q_div, q_pos, q_neg, q_T, q_F, q_max0, q_flg1, q_flg0, q_min, q_min2, q_bit, q_some, i1, cam, st, Nat.add_sub_cancel, m46]
    · refine ⟨nI (N 13 0), S', ?_, ?_, hR⟩
      · simp (disch := omega) only [fX4_rule, lt, jn, q_lit, q_bnd, q_cl, q_le, q_lt, q_eq, pk_mul, nI_add, q_sub, q_div, q_pos, q_neg, q_T, q_F, q_max0, q_flg1, q_flg0, q_min, q_min2, q_bit, q_some, c13]
      · simp (disch := omega) only [fX5_rule, lt, jn, q_lit, q_bnd, q_cl, q_le, q_lt, q_eq, pk_mul, nI_add, q_sub, q_div, q_pos, q_neg, q_T, q_F, q_max0, q_flg1, q_flg0, q_min, q_min2, q_bit, q_some, i1, cam, st, Nat.reduceAdd, Nat.reduceSub, m47]
    · refine ⟨nI (N 14 0), S', ?_, ?_, hR⟩
      · simp (disch := omega) only [fX4_rule, lt, jn, q_lit, q_bnd, q_cl, q_le, q_lt, q_eq, pk_mul, nI_add, q_sub, q_div, q_pos, q_neg, q_T, q_F, q_max0, q_flg1, q_flg0, q_min, q_min2, q_bit, q_some, c14]
      · simp (disch := omega) only [fX5_rule, lt, jn, q_lit, q_bnd, q_cl, q_le, q_lt, q_eq, pk_mul, nI_add, q_sub, q_div, q_pos, q_neg, q_T, q_F, q_max0, q_flg1, q_flg0, q_min, q_min2, q_bit, q_some, i1, cam, st, Nat.reduceAdd, Nat.reduceSub, m48]
    · refine ⟨nI (N 4 0), S', ?_, ?_, hR⟩
      · simp (disch := omega) only [fX4_rule, lt, jn, q_lit, q_bnd, q_cl, q_le, q_lt, q_eq, pk_mul, nI_add, q_sub, q_div, q_pos, q_neg, q_T, q_F, q_max0, q_flg1, q_flg0, q_min, q_min2, q_bit, q_some, c4]
      · simp (disch := omega) only [fX5_rule, lt, jn, q_lit, q_bnd, q_cl, q_le, q_lt, q_eq, pk_mul, nI_add, q_sub, q_div, q_pos, q_neg, q_T, q_F, q_max0, q_flg1, q_flg0, q_min, q_min2, q_bit, q_some, i1, cam]
    · refine ⟨nI (spBits (spEaten N) (N 0 0)), S', ?_, ?_, hR⟩
      · simp (disch := omega) only [fX4_rule, lt, jn, q_lit, q_bnd, q_cl, q_le, q_lt, q_eq, pk_mul, nI_add, q_sub, q_div, q_pos, q_neg, q_T, q_F, q_max0, q_flg1, q_flg0, q_min, q_min2, q_bit, q_some, ec]
      · simp (disch := omega) only [fX5_rule, lt, jn, q_lit, q_bnd, q_cl, q_le, q_lt, q_eq, pk_mul, nI_add, q_sub, q_div, q_pos, q_neg, q_T, q_F, q_max0, q_flg1, q_flg0, q_min, q_min2, q_bit, q_some, i1, cam, ee]
  · have x0 := j1 0 (by omega) (by omega)
    have x1 := j1 1 (by omega) (by omega)
    have x2 := j1 2 (by omega) (by omega)
    have x3 := j1 3 (by omega) (by omega)
    have x4 := j1 4 (by omega) (by omega)
    have x5 := j1 5 (by omega) (by omega)
    have x6 := j1 6 (by omega) (by omega)
    refine ⟨-1, S', ?_, ?_, hR⟩
    · simp (disch := omega) only [fX4_rule, lt, jn, q_lit, q_bnd, q_cl, q_le, q_lt, q_eq, pk_mul, nI_add, q_sub, q_div, q_pos, q_neg, q_T, q_F, q_max0, q_flg1, q_flg0, q_min, q_min2, q_bit, q_some, x0, x1, x2, x3, x4, x5, x6]
    · simp (disch := omega) only [fX5_rule, lt, jn, q_lit, q_bnd, q_cl, q_le, q_lt, q_eq, pk_mul, nI_add, q_sub, q_div, q_pos, q_neg, q_T, q_F, q_max0, q_flg1, q_flg0, q_min, q_min2, q_bit, q_some, i1, cam, x0, x1, x2, x3, x4, x5, x6]
end
section
theorem R.data {X : M3} {S : M2} (h : R X S) : ∃ N B, WF N B ∧ N 14 0 ≤ 999 ∧ CS N B (X 2) ∧ MS N B (S 0) ∧ S 3 0 = nI (N 0 0) ∧ S 4 0 = nI (N 7 0) ∧ RN N B (X 2) (S 0) (S 3 0) (S 4 0) ∧ RK N (X 0 6 0) (im2 (X 4) (X 5)) (S 0) (S 2) := by
  obtain ⟨⟨N, B, h1, h2⟩, -⟩ := h
  exact ⟨N, B, h1.1, h1.2.1, h1.2.2.1, h1.2.2.2.1, h1.2.2.2.2.1, h1.2.2.2.2.2, h1, h2⟩
theorem RK.st {N N' : NN} {kept : Int32} {im : Nat → M2} {st st' isk : Nat → Int32} (h : RK N kept im st isk) (n0 : N' 0 0 = N 0 0) (n7 : N' 7 0 = N 7 0) (e : ∀ x, 62 ≤ x → st' x = st x) : RK N' kept im st' isk := by
  obtain ⟨kp, k1, k2, k3⟩ := h
  refine ⟨kp, k1, k2, fun k hk => ⟨(k3 k hk).1, fun hb => ?_⟩⟩
  obtain ⟨N2, B2, a1, a2, a3, a4, a5, a6⟩ := (k3 k hk).2 hb
  refine ⟨N2, B2, a1, a2, a3.trans n0.symm, a4.trans n7.symm, a5, ?_⟩
  have : (fun x => st' (62 * (k + 1) + x)) = fun x => st (62 * (k + 1) + x) := funext fun x => e _ (by omega)
  rw [this]
  exact a6
/-- what is now becomes N' and B' -/
theorem R.now {X : M3} {S S' : M2} {N N' : NN} {B' : BB} {Q : M2} (h : R X S) (hK : RK N (X 0 6 0) (im2 (X 4) (X 5)) (S 0) (S 2)) (e3 : S 3 0 = nI (N 0 0)) (e4 : S 4 0 = nI (N 7 0)) (n0 : N' 0 0 = N 0 0) (n7 : N' 7 0 = N 7 0) (hW : WF N' B') (hn : N' 14 0 ≤ 999) (hC : CS N' B' Q) (hM : MS N' B' (S' 0)) (hs : ∀ k, k ≠ 0 → k ≠ 1 → S' k = S k) (h62 : ∀ x, 62 ≤ x → S' 0 x = S 0 x) : R (va_up X 2 Q) S' := by
  obtain ⟨-, h2, h3, h4⟩ := h
  have f2 := hs 2 (by decide) (by decide)
  have f3 := hs 3 (by decide) (by decide)
  have f4 := hs 4 (by decide) (by decide)
  have f11 := hs 11 (by decide) (by decide)
  have f12 := hs 12 (by decide) (by decide)
  have f17 := hs 17 (by decide) (by decide)
  have f20 := hs 20 (by decide) (by decide)
  have f21 := hs 21 (by decide) (by decide)
  have f22 := hs 22 (by decide) (by decide)
  have f23 := hs 23 (by decide) (by decide)
  refine ⟨⟨N', B', ⟨hW, hn, hC, hM, ?_, ?_⟩, ?_⟩, ?_, ?_, ?_⟩
  · rw [f3, n0]; exact e3
  · rw [f4, n7]; exact e4
  · rw [f2]
    exact hK.st n0 n7 h62
  · rw [f11, f12, f17]; exact h2
  · rw [f20, f21, f22]; exact h3
  · rw [f23]; exact h4
theorem u62 {S : M2} {i : Nat} {v : Int32} (h : i < 62) : ∀ x, 62 ≤ x → va_up S 0 (upd (S 0) i v) 0 x = S 0 x := fun x hx => by rw [q_up, if_pos rfl, q_ud, if_neg (by omega)]
theorem us0 {S : M2} {f : Nat → Int32} : ∀ k, k ≠ 0 → k ≠ 1 → va_up S 0 f k = S k := fun k h _ => by rw [q_up, if_neg h]
theorem k_bolt {X : M3} {S : M2} (h : R X S) (x w : Int32) : ∃ a, fX4_bolt x w X = some a ∧ fX5_bolt x w S = some a := by
  obtain ⟨N, B, hW, hn, hC, hM, e3, e4, hN, hK⟩ := h.data
  have w1 := hW.1
  have eb : fX5_isBolt x S = fX1_hasBolt x (X 2) := m_isBolt (e3.trans hC.1.1.symm) x
  rcases t_hasBolt hC.1.1 w1.1 x with ⟨b, hb, rfl, h1⟩ | ⟨-, h1⟩
  · rw [h1] at eb
    obtain ⟨k, i, hk, hi⟩ := hW.2.2.2.2.ex hb
    obtain ⟨g1, g2, g3⟩ := hC.2.1 b hb
    obtain ⟨m1, m2, m3, m4⟩ := hM.2.1 b hb
    obtain ⟨m5, m6⟩ := hM.2.2.2.2 k hk i b hi
    have w4 : N 4 0 < 2 ^ 5 := Nat.lt_of_lt_of_le w1.2.2.1 (Nat.pow_le_pow_right (by decide) w1.1)
    rcases q_within w (a := 0) (b := 5) (by omega) with ⟨j, -, j2, rfl⟩ | ⟨j1, j2⟩
    · rcases (by omega : j = 0 ∨ j = 1 ∨ j = 2 ∨ j = 3 ∨ j = 4 ∨ j = 5) with rfl | rfl | rfl | rfl | rfl | rfl
      · refine ⟨nI (N 1 b), ?_, ?_⟩
        · simp (disch := omega) only [fX4_bolt, lt, jn, q_lit, q_bnd, q_cl, q_le, q_lt, q_eq, pk_mul, nI_add, q_sub, q_div, q_pos, q_neg, q_T, q_F, q_max0, q_flg1, q_flg0, q_min, q_min2, q_bit, q_some, h1, g1]
        · simp (disch := omega) only [fX5_bolt, lt, jn, q_lit, q_bnd, q_cl, q_le, q_lt, q_eq, pk_mul, nI_add, q_sub, q_div, q_pos, q_neg, q_T, q_F, q_max0, q_flg1, q_flg0, q_min, q_min2, q_bit, q_some, q_in_0_127, q_in_0_1, q_in_0_2, q_in_0_3, q_in_0_4, q_in_0_5, q_in_0_9, q_in_0_10, q_in_0_20, q_in_1_20, q_in_48_57, q_in_97_122, q_inB, q_win, eb, m1, Nat.add_zero]
      · refine ⟨nI (N 2 b), ?_, ?_⟩
        · simp (disch := omega) only [fX4_bolt, lt, jn, q_lit, q_bnd, q_cl, q_le, q_lt, q_eq, pk_mul, nI_add, q_sub, q_div, q_pos, q_neg, q_T, q_F, q_max0, q_flg1, q_flg0, q_min, q_min2, q_bit, q_some, h1, g2]
        · simp (disch := omega) only [fX5_bolt, lt, jn, q_lit, q_bnd, q_cl, q_le, q_lt, q_eq, pk_mul, nI_add, q_sub, q_div, q_pos, q_neg, q_T, q_F, q_max0, q_flg1, q_flg0, q_min, q_min2, q_bit, q_some, q_in_0_127, q_in_0_1, q_in_0_2, q_in_0_3, q_in_0_4, q_in_0_5, q_in_0_9, q_in_0_10, q_in_0_20, q_in_1_20, q_in_48_57, q_in_97_122, q_inB, q_win, eb, m2]
      · refine ⟨nI (N 3 b), ?_, ?_⟩
        · simp (disch := omega) only [fX4_bolt, lt, jn, q_lit, q_bnd, q_cl, q_le, q_lt, q_eq, pk_mul, nI_add, q_sub, q_div, q_pos, q_neg, q_T, q_F, q_max0, q_flg1, q_flg0, q_min, q_min2, q_bit, q_some, h1, g3]
        · simp (disch := omega) only [fX5_bolt, lt, jn, q_lit, q_bnd, q_cl, q_le, q_lt, q_eq, pk_mul, nI_add, q_sub, q_div, q_pos, q_neg, q_T, q_F, q_max0, q_flg1, q_flg0, q_min, q_min2, q_bit, q_some, q_in_0_127, q_in_0_1, q_in_0_2, q_in_0_3, q_in_0_4, q_in_0_5, q_in_0_9, q_in_0_10, q_in_0_20, q_in_1_20, q_in_48_57, q_in_97_122, q_inB, q_win, eb, m3]
      · refine ⟨nI ((N 4 0).testBit b).toNat, ?_, ?_⟩
        · simp (disch := omega) only [fX4_bolt, lt, jn, q_lit, q_bnd, q_cl, q_le, q_lt, q_eq, pk_mul, nI_add, q_sub, q_div, q_pos, q_neg, q_T, q_F, q_max0, q_flg1, q_flg0, q_min, q_min2, q_bit, q_some, h1, hC.1.2.1]
        · simp (disch := omega) only [fX5_bolt, lt, jn, q_lit, q_bnd, q_cl, q_le, q_lt, q_eq, pk_mul, nI_add, q_sub, q_div, q_pos, q_neg, q_T, q_F, q_max0, q_flg1, q_flg0, q_min, q_min2, q_bit, q_some, q_in_0_127, q_in_0_1, q_in_0_2, q_in_0_3, q_in_0_4, q_in_0_5, q_in_0_9, q_in_0_10, q_in_0_20, q_in_1_20, q_in_48_57, q_in_97_122, q_inB, q_win, eb, m4]
      · refine ⟨nI k, ?_, ?_⟩
        · simp (disch := omega) only [fX4_bolt, lt, jn, q_lit, q_bnd, q_cl, q_le, q_lt, q_eq, pk_mul, nI_add, q_sub, q_div, q_pos, q_neg, q_T, q_F, q_max0, q_flg1, q_flg0, q_min, q_min2, q_bit, q_some, h1, t_baleOf hC hW hk hi]
        · simp (disch := omega) only [fX5_bolt, lt, jn, q_lit, q_bnd, q_cl, q_le, q_lt, q_eq, pk_mul, nI_add, q_sub, q_div, q_pos, q_neg, q_T, q_F, q_max0, q_flg1, q_flg0, q_min, q_min2, q_bit, q_some, q_in_0_127, q_in_0_1, q_in_0_2, q_in_0_3, q_in_0_4, q_in_0_5, q_in_0_9, q_in_0_10, q_in_0_20, q_in_1_20, q_in_48_57, q_in_97_122, q_inB, q_win, eb, m5]
      · refine ⟨nI i, ?_, ?_⟩
        · simp (disch := omega) only [fX4_bolt, lt, jn, q_lit, q_bnd, q_cl, q_le, q_lt, q_eq, pk_mul, nI_add, q_sub, q_div, q_pos, q_neg, q_T, q_F, q_max0, q_flg1, q_flg0, q_min, q_min2, q_bit, q_some, h1, t_layerOf hC hW hk hi]
        · simp (disch := omega) only [fX5_bolt, lt, jn, q_lit, q_bnd, q_cl, q_le, q_lt, q_eq, pk_mul, nI_add, q_sub, q_div, q_pos, q_neg, q_T, q_F, q_max0, q_flg1, q_flg0, q_min, q_min2, q_bit, q_some, q_in_0_127, q_in_0_1, q_in_0_2, q_in_0_3, q_in_0_4, q_in_0_5, q_in_0_9, q_in_0_10, q_in_0_20, q_in_1_20, q_in_48_57, q_in_97_122, q_inB, q_win, eb, m6]
    · have x0 := j1 0 (by omega) (by omega)
      have x1 := j1 1 (by omega) (by omega)
      have x2 := j1 2 (by omega) (by omega)
      have x3 := j1 3 (by omega) (by omega)
      have x4 := j1 4 (by omega) (by omega)
      have x5 := j1 5 (by omega) (by omega)
      refine ⟨-1, ?_, ?_⟩
      · simp (disch := omega) only [fX4_bolt, lt, jn, q_lit, q_bnd, q_cl, q_le, q_lt, q_eq, pk_mul, nI_add, q_sub, q_div, q_pos, q_neg, q_T, q_F, q_max0, q_flg1, q_flg0, q_min, q_min2, q_bit, q_some, h1, x0, x1, x2, x3, x4, x5]
      · simp (disch := omega) only [fX5_bolt, lt, jn, q_lit, q_bnd, q_cl, q_le, q_lt, q_eq, pk_mul, nI_add, q_sub, q_div, q_pos, q_neg, q_T, q_F, q_max0, q_flg1, q_flg0, q_min, q_min2, q_bit, q_some, q_in_0_127, q_in_0_1, q_in_0_2, q_in_0_3, q_in_0_4, q_in_0_5, q_in_0_9, q_in_0_10, q_in_0_20, q_in_1_20, q_in_48_57, q_in_97_122, q_inB, eb, j2]
  · rw [h1] at eb
    refine ⟨-1, ?_, ?_⟩
    · simp (disch := omega) only [fX4_bolt, lt, jn, q_lit, q_bnd, q_cl, q_le, q_lt, q_eq, pk_mul, nI_add, q_sub, q_div, q_pos, q_neg, q_T, q_F, q_max0, q_flg1, q_flg0, q_min, q_min2, q_bit, q_some, h1]
    · simp (disch := omega) only [fX5_bolt, lt, jn, q_lit, q_bnd, q_cl, q_le, q_lt, q_eq, pk_mul, nI_add, q_sub, q_div, q_pos, q_neg, q_T, q_F, q_max0, q_flg1, q_flg0, q_min, q_min2, q_bit, q_some, eb]
theorem m_lik_L {N : NN} {B : BB} {S0 S : M2} (hS : MA N B S0 S) (hW : WF N B) {m : Nat} (hm : m < N 7 0) (w : Int32) (kk : Int32 → Option (Int32 × M2)) : ∀ d b f : Nat, b + d = N 0 0 → d < f → fX5_moth_L31 (nI m) w S kk f (nI (spBits (spLik N m) b)) (nI b) = kk (nI (spBits (spLik N m) (N 0 0)))
  | 0, b, f + 1, hb, hf => by
    have w1 := hW.1
    have e : b = N 0 0 := by omega
    simp (disch := omega) only [fX5_moth_L31, lt, jn, q_lit, q_bnd, q_cl, q_le, q_lt, q_eq, pk_mul, nI_add, q_sub, q_div, q_pos, q_neg, q_T, q_F, q_max0, q_flg1, q_flg0, q_min, q_min2, q_bit, q_some, hS.n, e]
  | d + 1, b, f + 1, hb, hf => by
    have w1 := hW.1
    have h1 : b < N 0 0 := by omega
    have ih := m_lik_L hS hW hm w kk d (b + 1) f (by omega) (by omega)
    simp (disch := omega) only [fX5_moth_L31, lt, jn, q_lit, q_bnd, q_cl, q_le, q_lt, q_eq, pk_mul, nI_add, q_sub, q_div, q_pos, q_neg, q_T, q_F, q_max0, q_flg1, q_flg0, q_min, q_min2, q_bit, q_some, hS.n, m_likes hS hW hm h1, q_flag, q_orf]
    exact ih
theorem k_moth {X : M3} {S : M2} (h : R X S) (x w : Int32) : ∃ a S', fX4_moth x w X = some a ∧ fX5_moth x w S = some (a, S') ∧ R X S' := by
  obtain ⟨N, B, hW, hn, hC, hM, e3, e4, hN, hK⟩ := h.data
  have w1 := hW.1
  have c7 := hC.1.2.2.1
  have eb : fX5_isMoth x S = fX1_hasMoth x (X 2) := m_isMoth (e4.trans c7.symm) x
  rcases t_hasMoth c7 (by omega) x with ⟨m, hm, rfl, h1⟩ | ⟨-, h1⟩
  · rw [h1] at eb
    obtain ⟨g1, g2, g3, g4⟩ := hC.2.2.1 m hm
    rcases q_within w (a := 0) (b := 5) (by omega) with ⟨j, -, j2, rfl⟩ | ⟨j1, j2⟩
    · obtain ⟨S', i1, i2, -⟩ := hN.starts
      have hR := h.me (ME.ma i2)
      obtain ⟨m1, m2, m3, m4⟩ := i2.2.2.2.2.2.1 m hm
      have lik := fun w kk => m_lik_L i2 hW hm w kk (N 0 0) 0 400 (by omega) (by omega)
      rw [spBits] at lik
      have ea := t_appetite hC hW hm
      have em := m_appetite i2 hW hm
      have el := t_liked hC hW hm
      rcases (by omega : j = 0 ∨ j = 1 ∨ j = 2 ∨ j = 3 ∨ j = 4 ∨ j = 5) with rfl | rfl | rfl | rfl | rfl | rfl
      · refine ⟨nI (N 8 m), S', ?_, ?_, hR⟩
        · simp (disch := omega) only [fX4_moth, fX1_trait, lt, jn, q_lit, q_bnd, q_cl, q_le, q_lt, q_eq, pk_mul, nI_add, q_sub, q_div, q_pos, q_neg, q_T, q_F, q_max0, q_flg1, q_flg0, q_min, q_min2, q_bit, q_some, h1, g1]
        · simp (disch := omega) only [fX5_moth, fX5_mothOf, lt, jn, q_lit, q_bnd, q_cl, q_le, q_lt, q_eq, pk_mul, nI_add, q_sub, q_div, q_pos, q_neg, q_T, q_F, q_max0, q_flg1, q_flg0, q_min, q_min2, q_bit, q_some, q_in_0_127, q_in_0_1, q_in_0_2, q_in_0_3, q_in_0_4, q_in_0_5, q_in_0_9, q_in_0_10, q_in_0_20, q_in_1_20, q_in_48_57, q_in_97_122, q_inB, q_win, eb, i1, lik, m1, Nat.add_zero]
      · refine ⟨nI (N 9 m), S', ?_, ?_, hR⟩
        · simp (disch := omega) only [fX4_moth, fX1_trait, lt, jn, q_lit, q_bnd, q_cl, q_le, q_lt, q_eq, pk_mul, nI_add, q_sub, q_div, q_pos, q_neg, q_T, q_F, q_max0, q_flg1, q_flg0, q_min, q_min2, q_bit, q_some, h1, g2]
        · simp (disch := omega) only [fX5_moth, fX5_mothOf, lt, jn, q_lit, q_bnd, q_cl, q_le, q_lt, q_eq, pk_mul, nI_add, q_sub, q_div, q_pos, q_neg, q_T, q_F, q_max0, q_flg1, q_flg0, q_min, q_min2, q_bit, q_some, q_in_0_127, q_in_0_1, q_in_0_2, q_in_0_3, q_in_0_4, q_in_0_5, q_in_0_9, q_in_0_10, q_in_0_20, q_in_1_20, q_in_48_57, q_in_97_122, q_inB, q_win, eb, i1, lik, m2]
      · refine ⟨nI (N 10 m), S', ?_, ?_, hR⟩
        · simp (disch := omega) only [fX4_moth, fX1_trait, lt, jn, q_lit, q_bnd, q_cl, q_le, q_lt, q_eq, pk_mul, nI_add, q_sub, q_div, q_pos, q_neg, q_T, q_F, q_max0, q_flg1, q_flg0, q_min, q_min2, q_bit, q_some, h1, g3]
        · simp (disch := omega) only [fX5_moth, fX5_mothOf, lt, jn, q_lit, q_bnd, q_cl, q_le, q_lt, q_eq, pk_mul, nI_add, q_sub, q_div, q_pos, q_neg, q_T, q_F, q_max0, q_flg1, q_flg0, q_min, q_min2, q_bit, q_some, q_in_0_127, q_in_0_1, q_in_0_2, q_in_0_3, q_in_0_4, q_in_0_5, q_in_0_9, q_in_0_10, q_in_0_20, q_in_1_20, q_in_48_57, q_in_97_122, q_inB, q_win, eb, i1, lik, m3]
      · refine ⟨nI (N 11 m), S', ?_, ?_, hR⟩
        · simp (disch := omega) only [fX4_moth, fX1_trait, lt, jn, q_lit, q_bnd, q_cl, q_le, q_lt, q_eq, pk_mul, nI_add, q_sub, q_div, q_pos, q_neg, q_T, q_F, q_max0, q_flg1, q_flg0, q_min, q_min2, q_bit, q_some, h1, g4]
        · simp (disch := omega) only [fX5_moth, fX5_mothOf, lt, jn, q_lit, q_bnd, q_cl, q_le, q_lt, q_eq, pk_mul, nI_add, q_sub, q_div, q_pos, q_neg, q_T, q_F, q_max0, q_flg1, q_flg0, q_min, q_min2, q_bit, q_some, q_in_0_127, q_in_0_1, q_in_0_2, q_in_0_3, q_in_0_4, q_in_0_5, q_in_0_9, q_in_0_10, q_in_0_20, q_in_1_20, q_in_48_57, q_in_97_122, q_inB, q_win, eb, i1, lik, m4]
      · refine ⟨nI (spApp N m), S', ?_, ?_, hR⟩
        · simp (disch := omega) only [fX4_moth, fX1_trait, lt, jn, q_lit, q_bnd, q_cl, q_le, q_lt, q_eq, pk_mul, nI_add, q_sub, q_div, q_pos, q_neg, q_T, q_F, q_max0, q_flg1, q_flg0, q_min, q_min2, q_bit, q_some, h1, ea]
        · simp (disch := omega) only [fX5_moth, lt, jn, q_lit, q_bnd, q_cl, q_le, q_lt, q_eq, pk_mul, nI_add, q_sub, q_div, q_pos, q_neg, q_T, q_F, q_max0, q_flg1, q_flg0, q_min, q_min2, q_bit, q_some, q_in_0_127, q_in_0_1, q_in_0_2, q_in_0_3, q_in_0_4, q_in_0_5, q_in_0_9, q_in_0_10, q_in_0_20, q_in_1_20, q_in_48_57, q_in_97_122, q_inB, q_win, eb, i1, lik, em]
      · refine ⟨nI (spBits (spLik N m) (N 0 0)), S', ?_, ?_, hR⟩
        · simp (disch := omega) only [fX4_moth, fX1_trait, lt, jn, q_lit, q_bnd, q_cl, q_le, q_lt, q_eq, pk_mul, nI_add, q_sub, q_div, q_pos, q_neg, q_T, q_F, q_max0, q_flg1, q_flg0, q_min, q_min2, q_bit, q_some, h1, el]
        · simp (disch := omega) only [fX5_moth, lt, jn, q_lit, q_bnd, q_cl, q_le, q_lt, q_eq, pk_mul, nI_add, q_sub, q_div, q_pos, q_neg, q_T, q_F, q_max0, q_flg1, q_flg0, q_min, q_min2, q_bit, q_some, q_in_0_127, q_in_0_1, q_in_0_2, q_in_0_3, q_in_0_4, q_in_0_5, q_in_0_9, q_in_0_10, q_in_0_20, q_in_1_20, q_in_48_57, q_in_97_122, q_inB, q_win, eb, i1, lik]
    · have x0 := j1 0 (by omega) (by omega)
      have x1 := j1 1 (by omega) (by omega)
      have x2 := j1 2 (by omega) (by omega)
      have x3 := j1 3 (by omega) (by omega)
      have x4 := j1 4 (by omega) (by omega)
      have x5 := j1 5 (by omega) (by omega)
      refine ⟨-1, S, ?_, ?_, h⟩
      · simp (disch := omega) only [fX4_moth, fX1_trait, lt, jn, q_lit, q_bnd, q_cl, q_le, q_lt, q_eq, pk_mul, nI_add, q_sub, q_div, q_pos, q_neg, q_T, q_F, q_max0, q_flg1, q_flg0, q_min, q_min2, q_bit, q_some, h1, x0, x1, x2, x3, x4, x5]
      · simp (disch := omega) only [fX5_moth, lt, jn, q_lit, q_bnd, q_cl, q_le, q_lt, q_eq, pk_mul, nI_add, q_sub, q_div, q_pos, q_neg, q_T, q_F, q_max0, q_flg1, q_flg0, q_min, q_min2, q_bit, q_some, q_in_0_127, q_in_0_1, q_in_0_2, q_in_0_3, q_in_0_4, q_in_0_5, q_in_0_9, q_in_0_10, q_in_0_20, q_in_1_20, q_in_48_57, q_in_97_122, q_inB, eb, j2]
  · rw [h1] at eb
    refine ⟨-1, S, ?_, ?_, h⟩
    · simp (disch := omega) only [fX4_moth, lt, jn, q_lit, q_bnd, q_cl, q_le, q_lt, q_eq, pk_mul, nI_add, q_sub, q_div, q_pos, q_neg, q_T, q_F, q_max0, q_flg1, q_flg0, q_min, q_min2, q_bit, q_some, h1]
    · simp (disch := omega) only [fX5_moth, lt, jn, q_lit, q_bnd, q_cl, q_le, q_lt, q_eq, pk_mul, nI_add, q_sub, q_div, q_pos, q_neg, q_T, q_F, q_max0, q_flg1, q_flg0, q_min, q_min2, q_bit, q_some, eb]
theorem q_win10 (x : Int32) : fX4_within (x - nI 10) (nI 0) (nI 4) = fX4_within x (nI 10) (nI 14) := by
  rcases q_within x (a := 10) (b := 14) (by omega) with ⟨j, j1, j2, rfl⟩ | ⟨j1, j2⟩
  · rw [q_win (by omega), q_sub (by omega), q_win (by omega)]
  · rw [j2]
    rcases q_within (x - nI 10) (a := 0) (b := 4) (by omega) with ⟨i, i1, i2, i3⟩ | ⟨i1, i2⟩
    · have : x = nI (i + 10) := by rw [← nI_add, ← i3, Int32.sub_add_cancel]
      exact absurd this (j1 _ (by omega) (by omega))
    · exact i2
theorem k_bale {X : M3} {S : M2} (h : R X S) (x w : Int32) : ∃ a S', fX4_bale x w X = some a ∧ fX5_bale x w S = some (a, S') ∧ R X S' := by
  obtain ⟨N, B, hW, hn, hC, hM, e3, e4, hN, hK⟩ := h.data
  have w1 := hW.1
  have eb : fX5_isBale x = fX4_isBale x := m_isBale x
  rcases t_isBale x with ⟨k, hk, rfl, h1⟩ | ⟨-, h1⟩
  · rw [h1] at eb
    obtain ⟨S', i1, i2, -⟩ := hN.starts
    have hR := h.me (ME.ma i2)
    have h6 := (hC.2.2.2.2 k hk).1
    have le := hW.2.2.2.2.le hk
    by_cases w0 : w = nI 0
    · subst w0
      refine ⟨nI (B k).length, S', ?_, ?_, hR⟩
      · simp (disch := omega) only [fX4_bale, lt, jn, q_lit, q_bnd, q_cl, q_le, q_lt, q_eq, pk_mul, nI_add, q_sub, q_div, q_pos, q_neg, q_T, q_F, q_max0, q_flg1, q_flg0, q_min, q_min2, q_bit, q_some, h1, h6]
      · simp (disch := omega) only [fX5_bale, lt, jn, q_lit, q_bnd, q_cl, q_le, q_lt, q_eq, pk_mul, nI_add, q_sub, q_div, q_pos, q_neg, q_T, q_F, q_max0, q_flg1, q_flg0, q_min, q_min2, q_bit, q_some, eb, i1, m_lies i2 hW hk]
    · by_cases w2 : w = nI 1
      · subst w2
        refine ⟨nI (spDuty (N 3) 0 (B k) * N 13 0), S', ?_, ?_, hR⟩
        · simp (disch := omega) only [fX4_bale, lt, jn, q_lit, q_bnd, q_cl, q_le, q_lt, q_eq, pk_mul, nI_add, q_sub, q_div, q_pos, q_neg, q_T, q_F, q_max0, q_flg1, q_flg0, q_min, q_min2, q_bit, q_some, h1, t_duty hC hW hk]
        · simp (disch := omega) only [fX5_bale, lt, jn, q_lit, q_bnd, q_cl, q_le, q_lt, q_eq, pk_mul, nI_add, q_sub, q_div, q_pos, q_neg, q_T, q_F, q_max0, q_flg1, q_flg0, q_min, q_min2, q_bit, q_some, eb, i1, m_duty i2 hW hk]
      · rcases q_within w (a := 10) (b := 14) (by omega) with ⟨j, j1, j2, rfl⟩ | ⟨j1, j2⟩
        · by_cases hj : (B k).length ≤ j - 10
          · have hno : (B k)[j - 10]? = none := List.getElem?_eq_none hj
            refine ⟨-4, S', ?_, ?_, hR⟩
            · simp (disch := omega) only [fX4_bale, lt, jn, q_lit, q_bnd, q_cl, q_le, q_lt, q_eq, pk_mul, nI_add, q_sub, q_div, q_pos, q_neg, q_T, q_F, q_max0, q_flg1, q_flg0, q_min, q_min2, q_bit, q_some, h1, q_win, h6]
            · simp (disch := omega) only [fX5_bale, lt, jn, q_lit, q_bnd, q_cl, q_le, q_lt, q_eq, pk_mul, nI_add, q_sub, q_div, q_pos, q_neg, q_T, q_F, q_max0, q_flg1, q_flg0, q_min, q_min2, q_bit, q_some, q_in_0_127, q_in_0_1, q_in_0_2, q_in_0_3, q_in_0_4, q_in_0_5, q_in_0_9, q_in_0_10, q_in_0_20, q_in_1_20, q_in_48_57, q_in_97_122, q_inB, q_win, eb, i1]
              rw [m_boltNo i2 hW hk (by omega) hno]
              rfl
          · obtain ⟨b, hb⟩ : ∃ b, (B k)[j - 10]? = some b := ⟨_, List.getElem?_eq_getElem (by omega)⟩
            have h5 := (hC.2.2.2.2 k hk).2 _ b hb
            refine ⟨nI b, S', ?_, ?_, hR⟩
            · simp (disch := omega) only [fX4_bale, lt, jn, q_lit, q_bnd, q_cl, q_le, q_lt, q_eq, pk_mul, nI_add, q_sub, q_div, q_pos, q_neg, q_T, q_F, q_max0, q_flg1, q_flg0, q_min, q_min2, q_bit, q_some, h1, q_win, h6, h5]
            · simp (disch := omega) only [fX5_bale, lt, jn, q_lit, q_bnd, q_cl, q_le, q_lt, q_eq, pk_mul, nI_add, q_sub, q_div, q_pos, q_neg, q_T, q_F, q_max0, q_flg1, q_flg0, q_min, q_min2, q_bit, q_some, q_in_0_127, q_in_0_1, q_in_0_2, q_in_0_3, q_in_0_4, q_in_0_5, q_in_0_9, q_in_0_10, q_in_0_20, q_in_1_20, q_in_48_57, q_in_97_122, q_inB, q_win, eb, i1, m_boltAt i2 hW hk hb]
        · have j3 := q_win10 w
          rw [j2] at j3
          refine ⟨-1, S', ?_, ?_, hR⟩
          · simp (disch := omega) only [fX4_bale, lt, jn, q_lit, q_bnd, q_cl, q_le, q_lt, q_eq, pk_mul, nI_add, q_sub, q_div, q_pos, q_neg, q_T, q_F, q_max0, q_flg1, q_flg0, q_min, q_min2, q_bit, q_some, h1, w0, w2, j2]
          · simp (disch := omega) only [fX5_bale, lt, jn, q_lit, q_bnd, q_cl, q_le, q_lt, q_eq, pk_mul, nI_add, q_sub, q_div, q_pos, q_neg, q_T, q_F, q_max0, q_flg1, q_flg0, q_min, q_min2, q_bit, q_some, q_in_0_127, q_in_0_1, q_in_0_2, q_in_0_3, q_in_0_4, q_in_0_5, q_in_0_9, q_in_0_10, q_in_0_20, q_in_1_20, q_in_48_57, q_in_97_122, q_inB, eb, i1, w0, w2, j3]
  · rw [h1] at eb
    refine ⟨-1, S, ?_, ?_, h⟩
    · simp (disch := omega) only [fX4_bale, lt, jn, q_lit, q_bnd, q_cl, q_le, q_lt, q_eq, pk_mul, nI_add, q_sub, q_div, q_pos, q_neg, q_T, q_F, q_max0, q_flg1, q_flg0, q_min, q_min2, q_bit, q_some, h1]
    · simp (disch := omega) only [fX5_bale, lt, jn, q_lit, q_bnd, q_cl, q_le, q_lt, q_eq, pk_mul, nI_add, q_sub, q_div, q_pos, q_neg, q_T, q_F, q_max0, q_flg1, q_flg0, q_min, q_min2, q_bit, q_some, eb]
theorem k_fold {X : M3} {S : M2} (h : R X S) (x y : Int32) : ∃ a X' S', fX4_fold x y X = some (a, X') ∧ fX5_fold x y S = some (a, S') ∧ R X' S' := by
  obtain ⟨N, B, hW, hn, hC, hM, e3, e4, hN, hK⟩ := h.data
  have w1 := hW.1
  have eb : fX5_isBolt x S = fX1_hasBolt x (X 2) := m_isBolt (e3.trans hC.1.1.symm) x
  have ek : fX5_isBale y = fX4_isBale y := m_isBale y
  rcases t_hasBolt hC.1.1 w1.1 x with ⟨b, hb, rfl, h1⟩ | ⟨-, h1⟩
  · rw [h1] at eb
    rcases t_isBale y with ⟨k2, hk2, rfl, h2⟩ | ⟨-, h2⟩
    · rw [h2] at ek
      obtain ⟨k, i, hk, hi⟩ := hW.2.2.2.2.ex hb
      obtain ⟨Q, q1, q2, q3⟩ := t_putOnTop hC hW hk hk2 hi
      obtain ⟨S1, i1, i2, -⟩ := hN.starts
      obtain ⟨S2, j1, j2⟩ := m_folds i2 hW hk hk2 hi true
      rw [if_pos rfl] at j2
      obtain ⟨S3, l1, l2, l3, l4, l5⟩ := m_settles j2 q3
      have l3' : S3 3 0 = nI (N 0 0) := by rw [l2 3 (by decide) (by decide)]; exact e3
      have l4' : S3 4 0 = nI (N 7 0) := by rw [l2 4 (by decide) (by decide)]; exact e4
      have hl := m_lies (S0 := S3) (S := S3) ⟨fun _ _ => rfl, l3', l4', l4⟩ q3 hk2
      refine ⟨nI (spTop (spTake B k i) k2 b k2).length, va_up X 2 Q, S3, ?_, ?_, h.now hK e3 e4 rfl rfl q3 hn q2 l3 l2 l5⟩
      · have h6 := (q2.2.2.2.2 k2 hk2).1
        simp (disch := omega) only [fX4_fold, lt, jn, q_lit, q_bnd, q_cl, q_le, q_lt, q_eq, pk_mul, nI_add, q_sub, q_div, q_pos, q_neg, q_T, q_F, q_max0, q_flg1, q_flg0, q_min, q_min2, q_bit, q_some, h1, h2, q1, q_up, h6]
      · simp (disch := omega) only [fX5_fold, fX5_folded, lt, jn, q_lit, q_bnd, q_cl, q_le, q_lt, q_eq, pk_mul, nI_add, q_sub, q_div, q_pos, q_neg, q_T, q_F, q_max0, q_flg1, q_flg0, q_min, q_min2, q_bit, q_some, eb, ek, i1]
        have j1' : fX5_folds (nI b) (nI k2) (nI 1) S1 = some S2 := j1
        simp (disch := omega) only [lt, jn, q_lit, q_bnd, q_cl, q_le, q_lt, q_eq, pk_mul, nI_add, q_sub, q_div, q_pos, q_neg, q_T, q_F, q_max0, q_flg1, q_flg0, q_min, q_min2, q_bit, q_some, j1', l1, hl]
    · rw [h2] at ek
      refine ⟨-1, X, S, ?_, ?_, h⟩
      · simp (disch := omega) only [fX4_fold, lt, jn, q_lit, q_bnd, q_cl, q_le, q_lt, q_eq, pk_mul, nI_add, q_sub, q_div, q_pos, q_neg, q_T, q_F, q_max0, q_flg1, q_flg0, q_min, q_min2, q_bit, q_some, h1, h2]
      · simp (disch := omega) only [fX5_fold, fX5_folded, lt, jn, q_lit, q_bnd, q_cl, q_le, q_lt, q_eq, pk_mul, nI_add, q_sub, q_div, q_pos, q_neg, q_T, q_F, q_max0, q_flg1, q_flg0, q_min, q_min2, q_bit, q_some, eb, ek]
  · rw [h1] at eb
    refine ⟨-1, X, S, ?_, ?_, h⟩
    · simp (disch := omega) only [fX4_fold, lt, jn, q_lit, q_bnd, q_cl, q_le, q_lt, q_eq, pk_mul, nI_add, q_sub, q_div, q_pos, q_neg, q_T, q_F, q_max0, q_flg1, q_flg0, q_min, q_min2, q_bit, q_some, h1]
    · simp (disch := omega) only [fX5_fold, fX5_folded, lt, jn, q_lit, q_bnd, q_cl, q_le, q_lt, q_eq, pk_mul, nI_add, q_sub, q_div, q_pos, q_neg, q_T, q_F, q_max0, q_flg1, q_flg0, q_min, q_min2, q_bit, q_some, eb]
theorem k_under {X : M3} {S : M2} (h : R X S) (x y : Int32) : ∃ a X' S', fX4_under x y X = some (a, X') ∧ fX5_under x y S = some (a, S') ∧ R X' S' := by
  obtain ⟨N, B, hW, hn, hC, hM, e3, e4, hN, hK⟩ := h.data
  have w1 := hW.1
  have eb : fX5_isBolt x S = fX1_hasBolt x (X 2) := m_isBolt (e3.trans hC.1.1.symm) x
  have ek : fX5_isBale y = fX4_isBale y := m_isBale y
  rcases t_hasBolt hC.1.1 w1.1 x with ⟨b, hb, rfl, h1⟩ | ⟨-, h1⟩
  · rw [h1] at eb
    rcases t_isBale y with ⟨k2, hk2, rfl, h2⟩ | ⟨-, h2⟩
    · rw [h2] at ek
      obtain ⟨k, i, hk, hi⟩ := hW.2.2.2.2.ex hb
      obtain ⟨Q0, Q, q0, q1, q2, q3⟩ := t_under hC hW hk hk2 hi
      obtain ⟨S1, i1, i2, -⟩ := hN.starts
      obtain ⟨S2, j1, j2⟩ := m_folds i2 hW hk hk2 hi false
      rw [if_neg (by decide)] at j2
      obtain ⟨S3, l1, l2, l3, l4, l5⟩ := m_settles j2 q3
      have l3' : S3 3 0 = nI (N 0 0) := by rw [l2 3 (by decide) (by decide)]; exact e3
      have l4' : S3 4 0 = nI (N 7 0) := by rw [l2 4 (by decide) (by decide)]; exact e4
      have hl := m_lies (S0 := S3) (S := S3) ⟨fun _ _ => rfl, l3', l4', l4⟩ q3 hk2
      refine ⟨nI (spBot (spTake B k i) k2 b k2).length, va_up X 2 Q, S3, ?_, ?_, h.now hK e3 e4 rfl rfl q3 hn q2 l3 l2 l5⟩
      · have h6 := (q2.2.2.2.2 k2 hk2).1
        simp (disch := omega) only [fX4_under, lt, jn, q_lit, q_bnd, q_cl, q_le, q_lt, q_eq, pk_mul, nI_add, q_sub, q_div, q_pos, q_neg, q_T, q_F, q_max0, q_flg1, q_flg0, q_min, q_min2, q_bit, q_some, h1, h2, q0, q_up, q1, h6, up_up]
      · simp (disch := omega) only [fX5_under, fX5_folded, lt, jn, q_lit, q_bnd, q_cl, q_le, q_lt, q_eq, pk_mul, nI_add, q_sub, q_div, q_pos, q_neg, q_T, q_F, q_max0, q_flg1, q_flg0, q_min, q_min2, q_bit, q_some, eb, ek, i1]
        have j1' : fX5_folds (nI b) (nI k2) (nI 0) S1 = some S2 := j1
        simp (disch := omega) only [lt, jn, q_lit, q_bnd, q_cl, q_le, q_lt, q_eq, pk_mul, nI_add, q_sub, q_div, q_pos, q_neg, q_T, q_F, q_max0, q_flg1, q_flg0, q_min, q_min2, q_bit, q_some, j1', l1, hl]
    · rw [h2] at ek
      refine ⟨-1, X, S, ?_, ?_, h⟩
      · simp (disch := omega) only [fX4_under, lt, jn, q_lit, q_bnd, q_cl, q_le, q_lt, q_eq, pk_mul, nI_add, q_sub, q_div, q_pos, q_neg, q_T, q_F, q_max0, q_flg1, q_flg0, q_min, q_min2, q_bit, q_some, h1, h2]
      · simp (disch := omega) only [fX5_under, fX5_folded, lt, jn, q_lit, q_bnd, q_cl, q_le, q_lt, q_eq, pk_mul, nI_add, q_sub, q_div, q_pos, q_neg, q_T, q_F, q_max0, q_flg1, q_flg0, q_min, q_min2, q_bit, q_some, eb, ek]
  · rw [h1] at eb
    refine ⟨-1, X, S, ?_, ?_, h⟩
    · simp (disch := omega) only [fX4_under, lt, jn, q_lit, q_bnd, q_cl, q_le, q_lt, q_eq, pk_mul, nI_add, q_sub, q_div, q_pos, q_neg, q_T, q_F, q_max0, q_flg1, q_flg0, q_min, q_min2, q_bit, q_some, h1]
    · simp (disch := omega) only [fX5_under, fX5_folded, lt, jn, q_lit, q_bnd, q_cl, q_le, q_lt, q_eq, pk_mul, nI_add, q_sub, q_div, q_pos, q_neg, q_T, q_F, q_max0, q_flg1, q_flg0, q_min, q_min2, q_bit, q_some, eb]
end
section
/-! swap -/
def sw (b c x : Nat) : Nat := if x = b then c else if x = c then b else x
theorem sw_sw (b c x : Nat) : sw b c (sw b c x) = x := by
  unfold sw
  by_cases h1 : x = b
  · rw [if_pos h1]
    by_cases h2 : c = b
    · rw [if_pos h2]
      omega
    · rw [if_neg h2, if_pos rfl]
      omega
  · rw [if_neg h1]
    by_cases h2 : x = c
    · rw [if_pos h2, if_pos rfl]
      omega
    · rw [if_neg h2, if_neg h1, if_neg h2]
theorem sw_id {b c z : Nat} (h1 : z ≠ b) (h2 : z ≠ c) : sw b c z = z := by
  unfold sw
  rw [if_neg h1, if_neg h2]
def spSwap (B : BB) (b c : Nat) : BB := fun k => (B k).map (sw b c)
theorem spSwap_at {B : BB} {b c k i x : Nat} : (spSwap B b c k)[i]? = some x ↔ (B k)[i]? = some (sw b c x) := by
  unfold spSwap
  rw [List.getElem?_map]
  cases h : (B k)[i]? with
  | none => simp
  | some y =>
    simp only [Option.map_some, Option.some.injEq]
    constructor
    · intro e
      rw [← e, sw_sw]
    · intro e
      rw [e, sw_sw]
theorem sw_count (b c x : Nat) : ∀ l : List Nat, (l.map (sw b c)).count x = l.count (sw b c x)
  | [] => rfl
  | y :: l => by
    rw [List.map_cons, List.count_cons, List.count_cons, sw_count b c x l]
    by_cases e : sw b c y = x
    · have e2 : y = sw b c x := by rw [← e, sw_sw]
      simp [e, ← e2]
    · have e2 : ¬ y = sw b c x := fun q => e (by rw [q, sw_sw])
      simp [e, e2]
theorem WB.swap {n : Nat} {B : BB} (h : WB n B) {b c : Nat} (hb : b < n) (hc : c < n) : WB n (spSwap B b c) := by
  intro x
  have := h (sw b c x)
  unfold spSwap
  rw [sw_count, sw_count, sw_count, this]
  unfold sw
  by_cases h1 : x = b
  · rw [if_pos h1, if_pos hc, if_pos (by omega)]
  · rw [if_neg h1]
    by_cases h2 : x = c
    · rw [if_pos h2, if_pos hb, if_pos (by omega)]
    · rw [if_neg h2]
theorem CS.swap {N : NN} {B : BB} {S : M2} (hS : CS N B S) (hW : WF N B) {b c k i k2 i2 : Nat} (hk : k < 3) (hk2 : k2 < 3) (hb : (B k)[i]? = some b) (hc : (B k2)[i2]? = some c) : CS N (spSwap B b c) (va_up S 5 (upd (upd (S 5) (k * 5 + i) (nI c)) (k2 * 5 + i2) (nI b))) := by
  obtain ⟨h1, h2, h3, h4, h5⟩ := hS
  refine ⟨h1, h2, h3, h4, fun k' hk' => ⟨?_, fun j x hx => ?_⟩⟩
  · show S 6 k' = _
    rw [(h5 k' hk').1]
    unfold spSwap
    rw [List.length_map]
  · show upd (upd (S 5) (k * 5 + i) (nI c)) (k2 * 5 + i2) (nI b) (k' * 5 + j) = _
    have hx' := spSwap_at.mp hx
    have hB := hW.2.2.2.2
    have w1 := hW.1.1
    have a1 := l_lt hb
    have a2 := l_lt hc
    have a3 := l_lt hx'
    have b1 := hB.le hk
    have b2 := hB.le hk2
    have b3 := hB.le hk'
    rw [q_ud, q_ud]
    by_cases e1 : k' * 5 + j = k2 * 5 + i2
    · have e2 : k' = k2 := by omega
      have e3 : j = i2 := by omega
      subst e2 e3
      rw [hc] at hx'
      have e4 := Option.some.inj hx'
      have e5 := (congrArg (sw b c) e4).symm
      rw [sw_sw] at e5
      rw [if_pos rfl, e5]
      unfold sw
      by_cases e6 : c = b
      · rw [if_pos e6, e6]
      · rw [if_neg e6, if_pos rfl]
    · rw [if_neg e1]
      by_cases e2 : k' * 5 + j = k * 5 + i
      · have e3 : k' = k := by omega
        have e4 : j = i := by omega
        subst e3 e4
        rw [hb] at hx'
        have e5 := Option.some.inj hx'
        have e6 := (congrArg (sw b c) e5).symm
        rw [sw_sw] at e6
        rw [if_pos rfl, e6]
        unfold sw
        rw [if_pos rfl]
      · rw [if_neg e2]
        have := (h5 k' hk').2 j _ hx'
        rw [this]
        have n1 : sw b c x ≠ b := fun q => by
          rw [q] at hx'
          obtain ⟨r1, r2⟩ := hB.at hk' hk hx' hb
          subst r1 r2
          exact e2 rfl
        have n2 : sw b c x ≠ c := fun q => by
          rw [q] at hx'
          obtain ⟨r1, r2⟩ := hB.at hk' hk2 hx' hc
          subst r1 r2
          exact e1 rfl
        have := sw_id n1 n2
        rw [sw_sw] at this
        rw [← this]
theorem MS.swap {N : NN} {B : BB} {r r' : Nat → Int32} (hM : MS N B r) (hW : WF N B) {b c : Nat} (hbn : b < N 0 0) (hcn : c < N 0 0) (hbc : b ≠ c) (e1 : ∀ q, q < 2 → r' (6 * b + (4 + q)) = r (6 * c + (4 + q))) (e2 : ∀ q, q < 2 → r' (6 * c + (4 + q)) = r (6 * b + (4 + q))) (e3 : ∀ x, (∀ q, q < 2 → x ≠ 6 * b + (4 + q) ∧ x ≠ 6 * c + (4 + q)) → r' x = r x) : MS N (spSwap B b c) r' := by
  obtain ⟨⟨a1, a2, a3, a4⟩, h5, h6, h7, h8⟩ := hM
  have w1 := hW.1
  refine ⟨⟨?_, ?_, ?_, ?_⟩, fun b' hb' => ⟨?_, ?_, ?_, ?_⟩, fun m hm => ⟨?_, ?_, ?_, ?_⟩, fun i hi => ⟨?_, ?_⟩, fun k hk i d hd => ?_⟩
  · rw [e3 _ fun q hq => by omega]; exact a1
  · rw [e3 _ fun q hq => by omega]; exact a2
  · rw [e3 _ fun q hq => by omega]; exact a3
  · rw [e3 _ fun q hq => by omega]; exact a4
  · rw [e3 _ fun q hq => by omega]; exact (h5 b' hb').1
  · rw [e3 _ fun q hq => by omega]; exact (h5 b' hb').2.1
  · rw [e3 _ fun q hq => by omega]; exact (h5 b' hb').2.2.1
  · rw [e3 _ fun q hq => by omega]; exact (h5 b' hb').2.2.2
  · rw [e3 _ fun q hq => by omega]; exact (h6 m hm).1
  · rw [e3 _ fun q hq => by omega]; exact (h6 m hm).2.1
  · rw [e3 _ fun q hq => by omega]; exact (h6 m hm).2.2.1
  · rw [e3 _ fun q hq => by omega]; exact (h6 m hm).2.2.2
  · rw [e3 _ fun q hq => by omega]; exact (h7 i hi).1
  · rw [e3 _ fun q hq => by omega]; exact (h7 i hi).2
  · have hd' := spSwap_at.mp hd
    have old := h8 k hk i _ hd'
    have key : ∀ q, q < 2 → r' (6 * d + (4 + q)) = r (6 * sw b c d + (4 + q)) := by
      intro q hq
      unfold sw
      by_cases f1 : d = b
      · rw [if_pos f1, f1, e1 q hq]
      · rw [if_neg f1]
        by_cases f2 : d = c
        · rw [if_pos f2, f2, e2 q hq]
        · rw [if_neg f2]
          exact e3 _ fun q' hq' => by omega
    exact ⟨(key 0 (by omega)).trans old.1, (key 1 (by omega)).trans old.2⟩
theorem k_swap {X : M3} {S : M2} (h : R X S) (x y : Int32) : ∃ a X' S', fX4_swap x y X = some (a, X') ∧ fX5_swap x y S = some (a, S') ∧ R X' S' := by
  obtain ⟨N, B, hW, hn, hC, hM, e3, e4, hN, hK⟩ := h.data
  have w1 := hW.1
  have eb : fX5_isBolt x S = fX1_hasBolt x (X 2) := m_isBolt (e3.trans hC.1.1.symm) x
  have ec : fX5_isBolt y S = fX1_hasBolt y (X 2) := m_isBolt (e3.trans hC.1.1.symm) y
  rcases t_hasBolt hC.1.1 w1.1 x with ⟨b, hb, rfl, h1⟩ | ⟨-, h1⟩
  · rw [h1] at eb
    rcases t_hasBolt hC.1.1 w1.1 y with ⟨c, hc, rfl, h2⟩ | ⟨-, h2⟩
    · rw [h2] at ec
      by_cases e : b = c
      · refine ⟨-1, X, S, ?_, ?_, h⟩
        · simp (disch := omega) only [fX4_swap, lt, jn, q_lit, q_bnd, q_cl, q_le, q_lt, q_eq, pk_mul, nI_add, q_sub, q_div, q_pos, q_neg, q_T, q_F, q_max0, q_flg1, q_flg0, q_min, q_min2, q_bit, q_some, h1, h2, e]
        · simp (disch := omega) only [fX5_swap, lt, jn, q_lit, q_bnd, q_cl, q_le, q_lt, q_eq, pk_mul, nI_add, q_sub, q_div, q_pos, q_neg, q_T, q_F, q_max0, q_flg1, q_flg0, q_min, q_min2, q_bit, q_some, eb, ec, e]
      · obtain ⟨k, i, hk, hi⟩ := hW.2.2.2.2.ex hb
        obtain ⟨k2, i2, hk2, hi2⟩ := hW.2.2.2.2.ex hc
        have a1 := l_lt hi
        have a2 := l_lt hi2
        have b1 := hW.2.2.2.2.le hk
        have b2 := hW.2.2.2.2.le hk2
        have g1 := hC.swap hW hk hk2 hi hi2
        have g2 := hW.bb (hW.2.2.2.2.swap hb hc)
        have hnew : (spSwap B b c k2)[i2]? = some b := spSwap_at.mpr (by rw [hi2]; unfold sw; rw [if_pos rfl])
        have m4 := (hM.2.2.2.2 k2 hk2 i2 c hi2).1
        have m5 := (hM.2.2.2.2 k2 hk2 i2 c hi2).2
        have n4 := (hM.2.2.2.2 k hk i b hi).1
        have n5 := (hM.2.2.2.2 k hk i b hi).2
        refine ⟨nI k2, va_up X 2 _, va_up S 0 (upd (upd (upd (upd (S 0) (6 * b + 4) (nI k2)) (6 * c + 4) (nI k)) (6 * b + 5) (nI i2)) (6 * c + 5) (nI i)), ?_, ?_, h.now hK e3 e4 rfl rfl g2 hn g1 ?_ us0 ?_⟩
        · have g3 := t_baleOf g1 g2 hk2 hnew
          simp (disch := omega) only [fX4_swap, lt, jn, q_lit, q_bnd, q_cl, q_le, q_lt, q_eq, pk_mul, nI_add, q_sub, q_div, q_pos, q_neg, q_T, q_F, q_max0, q_flg1, q_flg0, q_min, q_min2, q_bit, q_some, h1, h2, t_spotOf hC hW hk hi, t_spotOf hC hW hk2 hi2, q_up, up_up, g3]
        · unfold fX5_swap
          simp (disch := omega) only [lt, jn, q_lit, q_bnd, q_cl, q_le, q_lt, q_eq, pk_mul, nI_add, q_sub, q_div, q_pos, q_neg, q_T, q_F, q_max0, q_flg1, q_flg0, q_min, q_min2, q_bit, q_some, eb, ec]
          rw [fX5_swap_L25]
          simp (disch := omega) only [fX5_becomes, lt, jn, q_lit, q_bnd, q_cl, q_le, q_lt, q_eq, pk_mul, nI_add, q_sub, q_div, q_pos, q_neg, q_T, q_F, q_max0, q_flg1, q_flg0, q_min, q_min2, q_bit, q_some, q_up, q_ud, up_up, m4, m5, n4, n5]
          rw [fX5_swap_L25]
          simp (disch := omega) only [fX5_becomes, lt, jn, q_lit, q_bnd, q_cl, q_le, q_lt, q_eq, pk_mul, nI_add, q_sub, q_div, q_pos, q_neg, q_T, q_F, q_max0, q_flg1, q_flg0, q_min, q_min2, q_bit, q_some, q_up, q_ud, up_up, m4, m5, n4, n5]
          rw [fX5_swap_L25]
          simp (disch := omega) only [fX5_becomes, lt, jn, q_lit, q_bnd, q_cl, q_le, q_lt, q_eq, pk_mul, nI_add, q_sub, q_div, q_pos, q_neg, q_T, q_F, q_max0, q_flg1, q_flg0, q_min, q_min2, q_bit, q_some, q_up, q_ud, up_up, m4, m5, n4, n5]
        · rw [q_up, if_pos rfl]
          refine hM.swap hW hb hc e (fun q hq => ?_) (fun q hq => ?_) fun x hx => ?_
          · rcases (by omega : q = 0 ∨ q = 1) with rfl | rfl
            · simp (disch := omega) only [q_ud, q_neg, q_T, Nat.add_zero, m4]
            · simp (disch := omega) only [q_ud, q_neg, q_T, Nat.reduceAdd, m5]
          · rcases (by omega : q = 0 ∨ q = 1) with rfl | rfl
            · simp (disch := omega) only [q_ud, q_neg, q_T, Nat.add_zero, n4]
            · simp (disch := omega) only [q_ud, q_neg, q_T, Nat.reduceAdd, n5]
          · have x0 := hx 0 (by omega)
            have x1 := hx 1 (by omega)
            simp (disch := omega) only [q_ud, q_neg]
        · intro x hx
          simp (disch := omega) only [q_up, q_ud, q_neg, q_T]
    · rw [h2] at ec
      refine ⟨-1, X, S, ?_, ?_, h⟩
      · simp (disch := omega) only [fX4_swap, lt, jn, q_lit, q_bnd, q_cl, q_le, q_lt, q_eq, pk_mul, nI_add, q_sub, q_div, q_pos, q_neg, q_T, q_F, q_max0, q_flg1, q_flg0, q_min, q_min2, q_bit, q_some, h1, h2]
      · simp (disch := omega) only [fX5_swap, lt, jn, q_lit, q_bnd, q_cl, q_le, q_lt, q_eq, pk_mul, nI_add, q_sub, q_div, q_pos, q_neg, q_T, q_F, q_max0, q_flg1, q_flg0, q_min, q_min2, q_bit, q_some, eb, ec]
  · rw [h1] at eb
    refine ⟨-1, X, S, ?_, ?_, h⟩
    · simp (disch := omega) only [fX4_swap, lt, jn, q_lit, q_bnd, q_cl, q_le, q_lt, q_eq, pk_mul, nI_add, q_sub, q_div, q_pos, q_neg, q_T, q_F, q_max0, q_flg1, q_flg0, q_min, q_min2, q_bit, q_some, h1]
    · simp (disch := omega) only [fX5_swap, lt, jn, q_lit, q_bnd, q_cl, q_le, q_lt, q_eq, pk_mul, nI_add, q_sub, q_div, q_pos, q_neg, q_T, q_F, q_max0, q_flg1, q_flg0, q_min, q_min2, q_bit, q_some, eb]
end
section
/-! one field of what is now -/
theorem cam_off : ∀ c, c < 32 → ∀ b, b < 5 → nI c &&& ((nI 1 <<< (nI b &&& nI 31)) ^^^ (-nI 1)) = nI (c &&& (31 - 2 ^ b)) := by decide +kernel
theorem cam_offb : ∀ c, c < 32 → ∀ b, b < 5 → ∀ j, j < 5 → (c &&& (31 - 2 ^ b)).testBit j = (decide (j ≠ b) && c.testBit j) := by decide +kernel
theorem MS.cam {N : NN} {B : BB} {r : Nat → Int32} (hM : MS N B r) (hW : WF N B) {b c : Nat} (hb : b < N 0 0) {p : Bool} (e1 : c.testBit b = p) (e2 : ∀ j, j < N 0 0 → j ≠ b → c.testBit j = (N 4 0).testBit j) : MS (va_up N 4 (fun _ => c)) B (upd r (6 * b + 3) (nI p.toNat)) := by
  obtain ⟨⟨a1, a2, a3, a4⟩, h5, h6, h7, h8⟩ := hM
  have w1 := hW.1
  refine ⟨⟨?_, ?_, ?_, ?_⟩, fun b' hb' => ⟨?_, ?_, ?_, ?_⟩, fun m hm => ⟨?_, ?_, ?_, ?_⟩, fun i hi => ⟨?_, ?_⟩, fun k hk i d hd => ⟨?_, ?_⟩⟩
  · rw [q_ud, if_neg (by omega)]; exact a1
  · rw [q_ud, if_neg (by omega)]; exact a2
  · rw [q_ud, if_neg (by omega)]; exact a3
  · rw [q_ud, if_neg (by omega)]; exact a4
  · rw [q_ud, if_neg (by omega)]; exact (h5 b' hb').1
  · rw [q_ud, if_neg (by omega)]; exact (h5 b' hb').2.1
  · rw [q_ud, if_neg (by omega)]; exact (h5 b' hb').2.2.1
  · rw [q_ud]
    show _ = nI (c.testBit b').toNat
    by_cases e : b' = b
    · rw [if_pos (by omega), e, e1]
    · rw [if_neg (by omega), e2 b' hb' e]
      exact (h5 b' hb').2.2.2
  · rw [q_ud, if_neg (by omega)]; exact (h6 m hm).1
  · rw [q_ud, if_neg (by omega)]; exact (h6 m hm).2.1
  · rw [q_ud, if_neg (by omega)]; exact (h6 m hm).2.2.1
  · rw [q_ud, if_neg (by omega)]; exact (h6 m hm).2.2.2
  · rw [q_ud, if_neg (by omega)]; exact (h7 i hi).1
  · rw [q_ud, if_neg (by omega)]; exact (h7 i hi).2
  · rw [q_ud, if_neg (by omega)]; exact (h8 k hk i d hd).1
  · rw [q_ud, if_neg (by omega)]; exact (h8 k hk i d hd).2
theorem CS.cam {N : NN} {B : BB} {S : M2} (hS : CS N B S) (c : Nat) : CS (va_up N 4 (fun _ => c)) B (va_up S 4 (fun _ => nI c)) := by
  obtain ⟨⟨h1, h2, h3⟩, h4⟩ := hS
  exact ⟨⟨h1, rfl, h3⟩, h4⟩
theorem WF.cam {N : NN} {B : BB} (hW : WF N B) {c : Nat} (hc : c < 2 ^ N 0 0) : WF (va_up N 4 (fun _ => c)) B := by
  obtain ⟨⟨h1, h2, h3, h4⟩, h5⟩ := hW
  exact ⟨⟨h1, h2, hc, h4⟩, h5⟩
theorem k_camphor {X : M3} {S : M2} (h : R X S) (x : Int32) (p : Bool) : ∃ a X' S', fX4_camphor x (nI p.toNat) X = some (a, X') ∧ fX5_camphor x (nI p.toNat) S = some (a, S') ∧ R X' S' := by
  obtain ⟨N, B, hW, hn, hC, hM, e3, e4, hN, hK⟩ := h.data
  have w1 := hW.1
  have eb : fX5_isBolt x S = fX1_hasBolt x (X 2) := m_isBolt (e3.trans hC.1.1.symm) x
  rcases t_hasBolt hC.1.1 w1.1 x with ⟨b, hb, rfl, h1⟩ | ⟨-, h1⟩
  · rw [h1] at eb
    have w4 : N 4 0 < 2 ^ 5 := Nat.lt_of_lt_of_le w1.2.2.1 (Nat.pow_le_pow_right (by decide) w1.1)
    have m3 := (hM.2.1 b hb).2.2.2
    have c4 := hC.1.2.1
    have h2b : 2 ^ b < 2 ^ N 0 0 := Nat.pow_lt_pow_right (by decide) hb
    cases p
    · have o1 := cam_off (N 4 0) (by omega) b (by omega)
      have o2 := cam_offb (N 4 0) (by omega) b (by omega)
      refine ⟨nI ((N 4 0).testBit b).toNat, va_up X 2 _, va_up S 0 _, ?_, ?_, h.now (N' := va_up N 4 (fun _ => N 4 0 &&& (31 - 2 ^ b))) hK e3 e4 rfl rfl (hW.cam (c := N 4 0 &&& (31 - 2 ^ b)) (Nat.lt_of_le_of_lt Nat.and_le_left w1.2.2.1)) hn (hC.cam _) (by rw [q_up, if_pos rfl]; exact hM.cam hW hb (p := false) (by rw [o2 b (by omega)]; simp) (fun j hj hne => by rw [o2 j (by omega)]; simp [hne])) us0 (u62 (by omega))⟩
      · simp (disch := omega) only [fX4_camphor, lt, jn, q_lit, q_bnd, q_cl, q_le, q_lt, q_eq, pk_mul, nI_add, q_sub, q_div, q_pos, q_neg, q_T, q_F, q_max0, q_flg1, q_flg0, q_min, q_min2, q_bit, q_some, h1, c4, q_b0, o1]
      · simp (disch := omega) only [fX5_camphor, fX5_becomes, lt, jn, q_lit, q_bnd, q_cl, q_le, q_lt, q_eq, pk_mul, nI_add, q_sub, q_div, q_pos, q_neg, q_T, q_F, q_max0, q_flg1, q_flg0, q_min, q_min2, q_bit, q_some, eb, q_flag, m3]
    · have o3 : nI (N 4 0) ||| nI (2 ^ b) = nI (N 4 0 ||| 2 ^ b) := q_or _ _
      refine ⟨nI ((N 4 0).testBit b).toNat, va_up X 2 _, va_up S 0 _, ?_, ?_, h.now (N' := va_up N 4 (fun _ => N 4 0 ||| 2 ^ b)) hK e3 e4 rfl rfl (hW.cam (c := N 4 0 ||| 2 ^ b) (Nat.or_lt_two_pow w1.2.2.1 h2b)) hn (hC.cam _) (by rw [q_up, if_pos rfl]; exact hM.cam hW hb (p := true) (by rw [Nat.testBit_or, Nat.testBit_two_pow_self, Bool.or_true]) (fun j hj hne => by rw [Nat.testBit_or, Nat.testBit_two_pow_of_ne (Ne.symm hne), Bool.or_false])) us0 (u62 (by omega))⟩
      · simp (disch := omega) only [fX4_camphor, lt, jn, q_lit, q_bnd, q_cl, q_le, q_lt, q_eq, pk_mul, nI_add, q_sub, q_div, q_pos, q_neg, q_T, q_F, q_max0, q_flg1, q_flg0, q_min, q_min2, q_bit, q_some, h1, c4, q_b0, q_shl, o3]
        simp
      · simp (disch := omega) only [fX5_camphor, fX5_becomes, lt, jn, q_lit, q_bnd, q_cl, q_le, q_lt, q_eq, pk_mul, nI_add, q_sub, q_div, q_pos, q_neg, q_T, q_F, q_max0, q_flg1, q_flg0, q_min, q_min2, q_bit, q_some, eb, q_flag, m3]
  · rw [h1] at eb
    refine ⟨-1, X, S, ?_, ?_, h⟩
    · simp (disch := omega) only [fX4_camphor, lt, jn, q_lit, q_bnd, q_cl, q_le, q_lt, q_eq, pk_mul, nI_add, q_sub, q_div, q_pos, q_neg, q_T, q_F, q_max0, q_flg1, q_flg0, q_min, q_min2, q_bit, q_some, h1]
    · simp (disch := omega) only [fX5_camphor, lt, jn, q_lit, q_bnd, q_cl, q_le, q_lt, q_eq, pk_mul, nI_add, q_sub, q_div, q_pos, q_neg, q_T, q_F, q_max0, q_flg1, q_flg0, q_min, q_min2, q_bit, q_some, eb]
theorem CS.hole {N : NN} {B : BB} {S : M2} (hS : CS N B S) {b v : Nat} : CS (va_up N 3 (va_up (N 3) b v)) B (va_up S 3 (upd (S 3) b (nI v))) := by
  have e : CS (va_up N 3 (N 3)) B S := by rw [up_id]; exact hS
  exact e.holes
theorem WF.hole {N : NN} {B : BB} (hW : WF N B) {b v : Nat} (hv : v ≤ N 2 b) : WF (va_up N 3 (va_up (N 3) b v)) B := by
  have e : WF (va_up N 3 (N 3)) B := by rw [up_id]; exact hW
  exact e.holes hv
theorem MS.hole {N : NN} {B : BB} {r : Nat → Int32} (hM : MS N B r) (hW : WF N B) {b v : Nat} (hb : b < N 0 0) : MS (va_up N 3 (va_up (N 3) b v)) B (upd r (6 * b + 2) (nI v)) := by
  have e : WF (va_up N 3 (N 3)) B := by rw [up_id]; exact hW
  have := (MA.holes (h := N 3) (S0 := va_up (va_up (fun _ => r) 3 (fun _ => nI (N 0 0))) 4 (fun _ => nI (N 7 0))) (S := va_up (va_up (fun _ => r) 3 (fun _ => nI (N 0 0))) 4 (fun _ => nI (N 7 0))) ⟨fun _ _ => rfl, rfl, rfl, by rw [up_id]; exact hM⟩ e (v := v) hb).2.2.2
  exact this
theorem k_patch {X : M3} {S : M2} (h : R X S) (x y : Int32) : ∃ a X' S', fX4_patch x y X = some (a, X') ∧ fX5_patch x y S = some (a, S') ∧ R X' S' := by
  obtain ⟨N, B, hW, hn, hC, hM, e3, e4, hN, hK⟩ := h.data
  have w1 := hW.1
  have eb : fX5_isBolt x S = fX1_hasBolt x (X 2) := m_isBolt (e3.trans hC.1.1.symm) x
  rcases t_hasBolt hC.1.1 w1.1 x with ⟨b, hb, rfl, h1⟩ | ⟨-, h1⟩
  · rw [h1] at eb
    have m2 := (hM.2.1 b hb).2.2.1
    have g3 := (hC.2.1 b hb).2.2
    have c3 := hW.2.1 b hb
    rcases q_within y (a := 0) (b := 9) (by omega) with ⟨j, -, j2, rfl⟩ | ⟨-, j2⟩
    · by_cases e : j ≤ N 3 b
      · refine ⟨nI (N 3 b - j), va_up X 2 _, va_up S 0 _, ?_, ?_, h.now (N' := va_up N 3 (va_up (N 3) b (N 3 b - j))) hK e3 e4 rfl rfl (hW.hole (b := b) (v := N 3 b - j) (by omega)) hn hC.hole (by rw [q_up, if_pos rfl]; exact hM.hole hW hb) us0 (u62 (by omega))⟩
        · simp (disch := omega) only [fX4_patch, lt, jn, q_lit, q_bnd, q_cl, q_le, q_lt, q_eq, pk_mul, nI_add, q_sub, q_div, q_pos, q_neg, q_T, q_F, q_max0, q_flg1, q_flg0, q_min, q_min2, q_bit, q_some, h1, q_win, g3, q_up, q_ud]
        · simp (disch := omega) only [fX5_patch, lt, jn, q_lit, q_bnd, q_cl, q_le, q_lt, q_eq, pk_mul, nI_add, q_sub, q_div, q_pos, q_neg, q_T, q_F, q_max0, q_flg1, q_flg0, q_min, q_min2, q_bit, q_some, q_in_0_127, q_in_0_1, q_in_0_2, q_in_0_3, q_in_0_4, q_in_0_5, q_in_0_9, q_in_0_10, q_in_0_20, q_in_1_20, q_in_48_57, q_in_97_122, q_inB, eb, q_win, m2, q_up, q_ud]
      · refine ⟨-2, X, S, ?_, ?_, h⟩
        · simp (disch := omega) only [fX4_patch, lt, jn, q_lit, q_bnd, q_cl, q_le, q_lt, q_eq, pk_mul, nI_add, q_sub, q_div, q_pos, q_neg, q_T, q_F, q_max0, q_flg1, q_flg0, q_min, q_min2, q_bit, q_some, h1, q_win, g3]
        · simp (disch := omega) only [fX5_patch, lt, jn, q_lit, q_bnd, q_cl, q_le, q_lt, q_eq, pk_mul, nI_add, q_sub, q_div, q_pos, q_neg, q_T, q_F, q_max0, q_flg1, q_flg0, q_min, q_min2, q_bit, q_some, q_in_0_127, q_in_0_1, q_in_0_2, q_in_0_3, q_in_0_4, q_in_0_5, q_in_0_9, q_in_0_10, q_in_0_20, q_in_1_20, q_in_48_57, q_in_97_122, q_inB, eb, q_win, m2]
    · refine ⟨-1, X, S, ?_, ?_, h⟩
      · simp (disch := omega) only [fX4_patch, lt, jn, q_lit, q_bnd, q_cl, q_le, q_lt, q_eq, pk_mul, nI_add, q_sub, q_div, q_pos, q_neg, q_T, q_F, q_max0, q_flg1, q_flg0, q_min, q_min2, q_bit, q_some, h1, j2]
      · simp (disch := omega) only [fX5_patch, lt, jn, q_lit, q_bnd, q_cl, q_le, q_lt, q_eq, pk_mul, nI_add, q_sub, q_div, q_pos, q_neg, q_T, q_F, q_max0, q_flg1, q_flg0, q_min, q_min2, q_bit, q_some, q_in_0_127, q_in_0_1, q_in_0_2, q_in_0_3, q_in_0_4, q_in_0_5, q_in_0_9, q_in_0_10, q_in_0_20, q_in_1_20, q_in_48_57, q_in_97_122, q_inB, eb, j2]
  · rw [h1] at eb
    refine ⟨-1, X, S, ?_, ?_, h⟩
    · simp (disch := omega) only [fX4_patch, lt, jn, q_lit, q_bnd, q_cl, q_le, q_lt, q_eq, pk_mul, nI_add, q_sub, q_div, q_pos, q_neg, q_T, q_F, q_max0, q_flg1, q_flg0, q_min, q_min2, q_bit, q_some, h1]
    · simp (disch := omega) only [fX5_patch, lt, jn, q_lit, q_bnd, q_cl, q_le, q_lt, q_eq, pk_mul, nI_add, q_sub, q_div, q_pos, q_neg, q_T, q_F, q_max0, q_flg1, q_flg0, q_min, q_min2, q_bit, q_some, eb]
theorem k_prick {X : M3} {S : M2} (h : R X S) (x : Int32) : ∃ a X' S', fX4_prick x X = some (a, X') ∧ fX5_prick x S = some (a, S') ∧ R X' S' := by
  obtain ⟨N, B, hW, hn, hC, hM, e3, e4, hN, hK⟩ := h.data
  have w1 := hW.1
  have eb : fX5_isBolt x S = fX1_hasBolt x (X 2) := m_isBolt (e3.trans hC.1.1.symm) x
  rcases t_hasBolt hC.1.1 w1.1 x with ⟨b, hb, rfl, h1⟩ | ⟨-, h1⟩
  · rw [h1] at eb
    have m2 := (hM.2.1 b hb).2.2.1
    have m1 := (hM.2.1 b hb).2.1
    have g3 := (hC.2.1 b hb).2.2
    have g2 := (hC.2.1 b hb).2.1
    have c3 := hW.2.1 b hb
    by_cases e : N 3 b < N 2 b
    · refine ⟨nI (N 3 b + 1), va_up X 2 _, va_up S 0 _, ?_, ?_, h.now (N' := va_up N 3 (va_up (N 3) b (N 3 b + 1))) hK e3 e4 rfl rfl (hW.hole (b := b) (v := N 3 b + 1) (by omega)) hn hC.hole (by rw [q_up, if_pos rfl]; exact hM.hole hW hb) us0 (u62 (by omega))⟩
      · simp (disch := omega) only [fX4_prick, lt, jn, q_lit, q_bnd, q_cl, q_le, q_lt, q_eq, pk_mul, nI_add, q_sub, q_div, q_pos, q_neg, q_T, q_F, q_max0, q_flg1, q_flg0, q_min, q_min2, q_bit, q_some, h1, g2, g3, q_up, q_ud]
      · simp (disch := omega) only [fX5_prick, lt, jn, q_lit, q_bnd, q_cl, q_le, q_lt, q_eq, pk_mul, nI_add, q_sub, q_div, q_pos, q_neg, q_T, q_F, q_max0, q_flg1, q_flg0, q_min, q_min2, q_bit, q_some, eb, m1, m2, q_up, q_ud]
    · refine ⟨-3, X, S, ?_, ?_, h⟩
      · simp (disch := omega) only [fX4_prick, lt, jn, q_lit, q_bnd, q_cl, q_le, q_lt, q_eq, pk_mul, nI_add, q_sub, q_div, q_pos, q_neg, q_T, q_F, q_max0, q_flg1, q_flg0, q_min, q_min2, q_bit, q_some, h1, g2, g3]
      · simp (disch := omega) only [fX5_prick, lt, jn, q_lit, q_bnd, q_cl, q_le, q_lt, q_eq, pk_mul, nI_add, q_sub, q_div, q_pos, q_neg, q_T, q_F, q_max0, q_flg1, q_flg0, q_min, q_min2, q_bit, q_some, eb, m1, m2]
  · rw [h1] at eb
    refine ⟨-1, X, S, ?_, ?_, h⟩
    · simp (disch := omega) only [fX4_prick, lt, jn, q_lit, q_bnd, q_cl, q_le, q_lt, q_eq, pk_mul, nI_add, q_sub, q_div, q_pos, q_neg, q_T, q_F, q_max0, q_flg1, q_flg0, q_min, q_min2, q_bit, q_some, h1]
    · simp (disch := omega) only [fX5_prick, lt, jn, q_lit, q_bnd, q_cl, q_le, q_lt, q_eq, pk_mul, nI_add, q_sub, q_div, q_pos, q_neg, q_T, q_F, q_max0, q_flg1, q_flg0, q_min, q_min2, q_bit, q_some, eb]
theorem MS.tr0 {N : NN} {B : BB} {r : Nat → Int32} (hM : MS N B r) (hW : WF N B) {m v : Nat} (hm : m < N 7 0) : MS (va_up N 8 (va_up (N 8) m v)) B (upd r (30 + 4 * m + 0) (nI v)) := by
  obtain ⟨⟨a1, a2, a3, a4⟩, h5, h6, h7, h8⟩ := hM
  have w1 := hW.1
  refine ⟨⟨?_, ?_, ?_, ?_⟩, fun b' hb' => ⟨?_, ?_, ?_, ?_⟩, fun m' hm' => ⟨?_, ?_, ?_, ?_⟩, fun i hi => ⟨?_, ?_⟩, fun k hk i d hd => ⟨?_, ?_⟩⟩
  · rw [q_ud, if_neg (by omega)]; exact a1
  · rw [q_ud, if_neg (by omega)]; exact a2
  · rw [q_ud, if_neg (by omega)]; exact a3
  · rw [q_ud, if_neg (by omega)]; exact a4
  · have hb2 : b' < N 0 0 := hb'
    rw [q_ud, if_neg (by omega)]; exact (h5 b' hb').1
  · have hb2 : b' < N 0 0 := hb'
    rw [q_ud, if_neg (by omega)]; exact (h5 b' hb').2.1
  · have hb2 : b' < N 0 0 := hb'
    rw [q_ud, if_neg (by omega)]; exact (h5 b' hb').2.2.1
  · have hb2 : b' < N 0 0 := hb'
    rw [q_ud, if_neg (by omega)]; exact (h5 b' hb').2.2.2
  · rw [q_ud]
    show _ = nI (va_up (N 8) m v m')
    rw [q_up]
    by_cases e : m' = m
    · rw [if_pos (by omega), if_pos e]
    · rw [if_neg (by omega), if_neg e]
      exact (h6 m' hm').1
  · rw [q_ud, if_neg (by omega)]; exact (h6 m' hm').2.1
  · rw [q_ud, if_neg (by omega)]; exact (h6 m' hm').2.2.1
  · rw [q_ud, if_neg (by omega)]; exact (h6 m' hm').2.2.2
  · rw [q_ud, if_neg (by omega)]; exact (h7 i hi).1
  · rw [q_ud, if_neg (by omega)]; exact (h7 i hi).2
  · have hd2 := hW.2.2.2.2.lt hk (List.mem_of_getElem? hd)
    rw [q_ud, if_neg (by omega)]; exact (h8 k hk i d hd).1
  · have hd2 := hW.2.2.2.2.lt hk (List.mem_of_getElem? hd)
    rw [q_ud, if_neg (by omega)]; exact (h8 k hk i d hd).2
theorem CS.tr0 {N : NN} {B : BB} {S : M2} (hS : CS N B S) (m v : Nat) : CS (va_up N 8 (va_up (N 8) m v)) B (va_up S 8 (upd (S 8) m (nI v))) := by
  obtain ⟨h1, h2, h3, h4⟩ := hS
  refine ⟨h1, h2, fun m' hm' => ?_, h4⟩
  have e : upd (S 8) m (nI v) m' = nI (va_up (N 8) m v m') := by
    rw [q_ud, q_up]
    by_cases e : m' = m
    · rw [if_pos e, if_pos e]
    · rw [if_neg e, if_neg e]
      exact (h3 m' hm').1
  exact ⟨e, (h3 m' hm').2.1, (h3 m' hm').2.2.1, (h3 m' hm').2.2.2⟩
theorem WF.tr0 {N : NN} {B : BB} (hW : WF N B) {m v : Nat} (hv : v ≤ 3) : WF (va_up N 8 (va_up (N 8) m v)) B := by
  obtain ⟨h1, h2, h3, h4, h5⟩ := hW
  refine ⟨h1, h2, fun m' hm' => ?_, h4, h5⟩
  have e : va_up (N 8) m v m' ≤ 3 := by
    rw [q_up]
    by_cases e : m' = m
    · rw [if_pos e]; exact hv
    · rw [if_neg e]
      exact (h3 m' hm').1
  exact ⟨e, (h3 m' hm').2.1, (h3 m' hm').2.2.1, (h3 m' hm').2.2.2⟩
theorem MS.tr1 {N : NN} {B : BB} {r : Nat → Int32} (hM : MS N B r) (hW : WF N B) {m v : Nat} (hm : m < N 7 0) : MS (va_up N 9 (va_up (N 9) m v)) B (upd r (30 + 4 * m + 1) (nI v)) := by
  obtain ⟨⟨a1, a2, a3, a4⟩, h5, h6, h7, h8⟩ := hM
  have w1 := hW.1
  refine ⟨⟨?_, ?_, ?_, ?_⟩, fun b' hb' => ⟨?_, ?_, ?_, ?_⟩, fun m' hm' => ⟨?_, ?_, ?_, ?_⟩, fun i hi => ⟨?_, ?_⟩, fun k hk i d hd => ⟨?_, ?_⟩⟩
  · rw [q_ud, if_neg (by omega)]; exact a1
  · rw [q_ud, if_neg (by omega)]; exact a2
  · rw [q_ud, if_neg (by omega)]; exact a3
  · rw [q_ud, if_neg (by omega)]; exact a4
  · have hb2 : b' < N 0 0 := hb'
    rw [q_ud, if_neg (by omega)]; exact (h5 b' hb').1
  · have hb2 : b' < N 0 0 := hb'
    rw [q_ud, if_neg (by omega)]; exact (h5 b' hb').2.1
  · have hb2 : b' < N 0 0 := hb'
    rw [q_ud, if_neg (by omega)]; exact (h5 b' hb').2.2.1
  · have hb2 : b' < N 0 0 := hb'
    rw [q_ud, if_neg (by omega)]; exact (h5 b' hb').2.2.2
  · rw [q_ud, if_neg (by omega)]; exact (h6 m' hm').1
  · rw [q_ud]
    show _ = nI (va_up (N 9) m v m')
    rw [q_up]
    by_cases e : m' = m
    · rw [if_pos (by omega), if_pos e]
    · rw [if_neg (by omega), if_neg e]
      exact (h6 m' hm').2.1
  · rw [q_ud, if_neg (by omega)]; exact (h6 m' hm').2.2.1
  · rw [q_ud, if_neg (by omega)]; exact (h6 m' hm').2.2.2
  · rw [q_ud, if_neg (by omega)]; exact (h7 i hi).1
  · rw [q_ud, if_neg (by omega)]; exact (h7 i hi).2
  · have hd2 := hW.2.2.2.2.lt hk (List.mem_of_getElem? hd)
    rw [q_ud, if_neg (by omega)]; exact (h8 k hk i d hd).1
  · have hd2 := hW.2.2.2.2.lt hk (List.mem_of_getElem? hd)
    rw [q_ud, if_neg (by omega)]; exact (h8 k hk i d hd).2
theorem CS.tr1 {N : NN} {B : BB} {S : M2} (hS : CS N B S) (m v : Nat) : CS (va_up N 9 (va_up (N 9) m v)) B (va_up S 9 (upd (S 9) m (nI v))) := by
  obtain ⟨h1, h2, h3, h4⟩ := hS
  refine ⟨h1, h2, fun m' hm' => ?_, h4⟩
  have e : upd (S 9) m (nI v) m' = nI (va_up (N 9) m v m') := by
    rw [q_ud, q_up]
    by_cases e : m' = m
    · rw [if_pos e, if_pos e]
    · rw [if_neg e, if_neg e]
      exact (h3 m' hm').2.1
  exact ⟨(h3 m' hm').1, e, (h3 m' hm').2.2.1, (h3 m' hm').2.2.2⟩
theorem WF.tr1 {N : NN} {B : BB} (hW : WF N B) {m v : Nat} (hv : v ≤ 5) : WF (va_up N 9 (va_up (N 9) m v)) B := by
  obtain ⟨h1, h2, h3, h4, h5⟩ := hW
  refine ⟨h1, h2, fun m' hm' => ?_, h4, h5⟩
  have e : va_up (N 9) m v m' ≤ 5 := by
    rw [q_up]
    by_cases e : m' = m
    · rw [if_pos e]; exact hv
    · rw [if_neg e]
      exact (h3 m' hm').2.1
  exact ⟨(h3 m' hm').1, e, (h3 m' hm').2.2.1, (h3 m' hm').2.2.2⟩
theorem MS.tr2 {N : NN} {B : BB} {r : Nat → Int32} (hM : MS N B r) (hW : WF N B) {m v : Nat} (hm : m < N 7 0) : MS (va_up N 10 (va_up (N 10) m v)) B (upd r (30 + 4 * m + 2) (nI v)) := by
  obtain ⟨⟨a1, a2, a3, a4⟩, h5, h6, h7, h8⟩ := hM
  have w1 := hW.1
  refine ⟨⟨?_, ?_, ?_, ?_⟩, fun b' hb' => ⟨?_, ?_, ?_, ?_⟩, fun m' hm' => ⟨?_, ?_, ?_, ?_⟩, fun i hi => ⟨?_, ?_⟩, fun k hk i d hd => ⟨?_, ?_⟩⟩
  · rw [q_ud, if_neg (by omega)]; exact a1
  · rw [q_ud, if_neg (by omega)]; exact a2
  · rw [q_ud, if_neg (by omega)]; exact a3
  · rw [q_ud, if_neg (by omega)]; exact a4
  · have hb2 : b' < N 0 0 := hb'
    rw [q_ud, if_neg (by omega)]; exact (h5 b' hb').1
  · have hb2 : b' < N 0 0 := hb'
    rw [q_ud, if_neg (by omega)]; exact (h5 b' hb').2.1
  · have hb2 : b' < N 0 0 := hb'
    rw [q_ud, if_neg (by omega)]; exact (h5 b' hb').2.2.1
  · have hb2 : b' < N 0 0 := hb'
    rw [q_ud, if_neg (by omega)]; exact (h5 b' hb').2.2.2
  · rw [q_ud, if_neg (by omega)]; exact (h6 m' hm').1
  · rw [q_ud, if_neg (by omega)]; exact (h6 m' hm').2.1
  · rw [q_ud]
    show _ = nI (va_up (N 10) m v m')
    rw [q_up]
    by_cases e : m' = m
    · rw [if_pos (by omega), if_pos e]
    · rw [if_neg (by omega), if_neg e]
      exact (h6 m' hm').2.2.1
  · rw [q_ud, if_neg (by omega)]; exact (h6 m' hm').2.2.2
  · rw [q_ud, if_neg (by omega)]; exact (h7 i hi).1
  · rw [q_ud, if_neg (by omega)]; exact (h7 i hi).2
  · have hd2 := hW.2.2.2.2.lt hk (List.mem_of_getElem? hd)
    rw [q_ud, if_neg (by omega)]; exact (h8 k hk i d hd).1
  · have hd2 := hW.2.2.2.2.lt hk (List.mem_of_getElem? hd)
    rw [q_ud, if_neg (by omega)]; exact (h8 k hk i d hd).2
theorem CS.tr2 {N : NN} {B : BB} {S : M2} (hS : CS N B S) (m v : Nat) : CS (va_up N 10 (va_up (N 10) m v)) B (va_up S 10 (upd (S 10) m (nI v))) := by
  obtain ⟨h1, h2, h3, h4⟩ := hS
  refine ⟨h1, h2, fun m' hm' => ?_, h4⟩
  have e : upd (S 10) m (nI v) m' = nI (va_up (N 10) m v m') := by
    rw [q_ud, q_up]
    by_cases e : m' = m
    · rw [if_pos e, if_pos e]
    · rw [if_neg e, if_neg e]
      exact (h3 m' hm').2.2.1
  exact ⟨(h3 m' hm').1, (h3 m' hm').2.1, e, (h3 m' hm').2.2.2⟩
theorem WF.tr2 {N : NN} {B : BB} (hW : WF N B) {m v : Nat} (hv : v ≤ 9) : WF (va_up N 10 (va_up (N 10) m v)) B := by
  obtain ⟨h1, h2, h3, h4, h5⟩ := hW
  refine ⟨h1, h2, fun m' hm' => ?_, h4, h5⟩
  have e : va_up (N 10) m v m' ≤ 9 := by
    rw [q_up]
    by_cases e : m' = m
    · rw [if_pos e]; exact hv
    · rw [if_neg e]
      exact (h3 m' hm').2.2.1
  exact ⟨(h3 m' hm').1, (h3 m' hm').2.1, e, (h3 m' hm').2.2.2⟩
theorem MS.tr3 {N : NN} {B : BB} {r : Nat → Int32} (hM : MS N B r) (hW : WF N B) {m v : Nat} (hm : m < N 7 0) : MS (va_up N 11 (va_up (N 11) m v)) B (upd r (30 + 4 * m + 3) (nI v)) := by
  obtain ⟨⟨a1, a2, a3, a4⟩, h5, h6, h7, h8⟩ := hM
  have w1 := hW.1
  refine ⟨⟨?_, ?_, ?_, ?_⟩, fun b' hb' => ⟨?_, ?_, ?_, ?_⟩, fun m' hm' => ⟨?_, ?_, ?_, ?_⟩, fun i hi => ⟨?_, ?_⟩, fun k hk i d hd => ⟨?_, ?_⟩⟩
  · rw [q_ud, if_neg (by omega)]; exact a1
  · rw [q_ud, if_neg (by omega)]; exact a2
  · rw [q_ud, if_neg (by omega)]; exact a3
  · rw [q_ud, if_neg (by omega)]; exact a4
  · have hb2 : b' < N 0 0 := hb'
    rw [q_ud, if_neg (by omega)]; exact (h5 b' hb').1
  · have hb2 : b' < N 0 0 := hb'
    rw [q_ud, if_neg (by omega)]; exact (h5 b' hb').2.1
  · have hb2 : b' < N 0 0 := hb'
    rw [q_ud, if_neg (by omega)]; exact (h5 b' hb').2.2.1
  · have hb2 : b' < N 0 0 := hb'
    rw [q_ud, if_neg (by omega)]; exact (h5 b' hb').2.2.2
  · rw [q_ud, if_neg (by omega)]; exact (h6 m' hm').1
  · rw [q_ud, if_neg (by omega)]; exact (h6 m' hm').2.1
  · rw [q_ud, if_neg (by omega)]; exact (h6 m' hm').2.2.1
  · rw [q_ud]
    show _ = nI (va_up (N 11) m v m')
    rw [q_up]
    by_cases e : m' = m
    · rw [if_pos (by omega), if_pos e]
    · rw [if_neg (by omega), if_neg e]
      exact (h6 m' hm').2.2.2
  · rw [q_ud, if_neg (by omega)]; exact (h7 i hi).1
  · rw [q_ud, if_neg (by omega)]; exact (h7 i hi).2
  · have hd2 := hW.2.2.2.2.lt hk (List.mem_of_getElem? hd)
    rw [q_ud, if_neg (by omega)]; exact (h8 k hk i d hd).1
  · have hd2 := hW.2.2.2.2.lt hk (List.mem_of_getElem? hd)
    rw [q_ud, if_neg (by omega)]; exact (h8 k hk i d hd).2
theorem CS.tr3 {N : NN} {B : BB} {S : M2} (hS : CS N B S) (m v : Nat) : CS (va_up N 11 (va_up (N 11) m v)) B (va_up S 11 (upd (S 11) m (nI v))) := by
  obtain ⟨h1, h2, h3, h4⟩ := hS
  refine ⟨h1, h2, fun m' hm' => ?_, h4⟩
  have e : upd (S 11) m (nI v) m' = nI (va_up (N 11) m v m') := by
    rw [q_ud, q_up]
    by_cases e : m' = m
    · rw [if_pos e, if_pos e]
    · rw [if_neg e, if_neg e]
      exact (h3 m' hm').2.2.2
  exact ⟨(h3 m' hm').1, (h3 m' hm').2.1, (h3 m' hm').2.2.1, e⟩
theorem WF.tr3 {N : NN} {B : BB} (hW : WF N B) {m v : Nat} (hv : v ≤ 2) : WF (va_up N 11 (va_up (N 11) m v)) B := by
  obtain ⟨h1, h2, h3, h4, h5⟩ := hW
  refine ⟨h1, h2, fun m' hm' => ?_, h4, h5⟩
  have e : va_up (N 11) m v m' ≤ 2 := by
    rw [q_up]
    by_cases e : m' = m
    · rw [if_pos e]; exact hv
    · rw [if_neg e]
      exact (h3 m' hm').2.2.2
  exact ⟨(h3 m' hm').1, (h3 m' hm').2.1, (h3 m' hm').2.2.1, e⟩
theorem k_alter {X : M3} {S : M2} (h : R X S) (x w y : Int32) : ∃ a X' S', fX4_alter x w y X = some (a, X') ∧ fX5_alter x w y S = some (a, S') ∧ R X' S' := by
  obtain ⟨N, B, hW, hn, hC, hM, e3, e4, hN, hK⟩ := h.data
  have w1 := hW.1
  have c7 := hC.1.2.2.1
  have eb : fX5_isMoth x S = fX1_hasMoth x (X 2) := m_isMoth (e4.trans c7.symm) x
  rcases t_hasMoth c7 (by omega) x with ⟨m, hm, rfl, h1⟩ | ⟨-, h1⟩
  · rw [h1] at eb
    obtain ⟨g1, g2, g3, g4⟩ := hC.2.2.1 m hm
    obtain ⟨m1, m2, m3, m4⟩ := hM.2.2.1 m hm
    rcases q_within w (a := 0) (b := 3) (by omega) with ⟨j, -, j2, rfl⟩ | ⟨-, j2⟩
    · rcases (by omega : j = 0 ∨ j = 1 ∨ j = 2 ∨ j = 3) with rfl | rfl | rfl | rfl
      · rcases q_within y (a := 0) (b := 3) (by omega) with ⟨v, -, v2, rfl⟩ | ⟨-, v2⟩
        · refine ⟨nI (N 8 m), va_up X 2 _, va_up S 0 _, ?_, ?_, h.now (N' := va_up N 8 (va_up (N 8) m v)) hK e3 e4 rfl rfl (hW.tr0 (m := m) v2) hn (hC.tr0 m v) (by rw [q_up, if_pos rfl]; exact hM.tr0 hW hm) us0 (u62 (by omega))⟩
          · simp (disch := omega) only [fX4_alter, fX4_mostOfTrait, fX1_trait, fX1_setTrait, lt, jn, q_lit, q_bnd, q_cl, q_le, q_lt, q_eq, pk_mul, nI_add, q_sub, q_div, q_pos, q_neg, q_T, q_F, q_max0, q_flg1, q_flg0, q_min, q_min2, q_bit, q_some, h1, q_win, g1]
          · simp (disch := omega) only [fX5_alter, fX5_mostOf, fX5_becomes, lt, jn, q_lit, q_bnd, q_cl, q_le, q_lt, q_eq, pk_mul, nI_add, q_sub, q_div, q_pos, q_neg, q_T, q_F, q_max0, q_flg1, q_flg0, q_min, q_min2, q_bit, q_some, q_in5, q_in_0_127, q_in_0_1, q_in_0_2, q_in_0_3, q_in_0_4, q_in_0_5, q_in_0_9, q_in_0_10, q_in_0_20, q_in_1_20, q_in_48_57, q_in_97_122, q_inB, eb, q_win, m1, Nat.add_zero]
        · refine ⟨-1, X, S, ?_, ?_, h⟩
          · simp (disch := omega) only [fX4_alter, fX4_mostOfTrait, lt, jn, q_lit, q_bnd, q_cl, q_le, q_lt, q_eq, pk_mul, nI_add, q_sub, q_div, q_pos, q_neg, q_T, q_F, q_max0, q_flg1, q_flg0, q_min, q_min2, q_bit, q_some, h1, q_win, v2]
          · simp (disch := omega) only [fX5_alter, fX5_mostOf, lt, jn, q_lit, q_bnd, q_cl, q_le, q_lt, q_eq, pk_mul, nI_add, q_sub, q_div, q_pos, q_neg, q_T, q_F, q_max0, q_flg1, q_flg0, q_min, q_min2, q_bit, q_some, q_in_0_127, q_in_0_1, q_in_0_2, q_in_0_3, q_in_0_4, q_in_0_5, q_in_0_9, q_in_0_10, q_in_0_20, q_in_1_20, q_in_48_57, q_in_97_122, q_inB, eb, q_win, v2]
      · rcases q_within y (a := 0) (b := 5) (by omega) with ⟨v, -, v2, rfl⟩ | ⟨-, v2⟩
        · refine ⟨nI (N 9 m), va_up X 2 _, va_up S 0 _, ?_, ?_, h.now (N' := va_up N 9 (va_up (N 9) m v)) hK e3 e4 rfl rfl (hW.tr1 (m := m) v2) hn (hC.tr1 m v) (by rw [q_up, if_pos rfl]; exact hM.tr1 hW hm) us0 (u62 (by omega))⟩
          · simp (disch := omega) only [fX4_alter, fX4_mostOfTrait, fX1_trait, fX1_setTrait, lt, jn, q_lit, q_bnd, q_cl, q_le, q_lt, q_eq, pk_mul, nI_add, q_sub, q_div, q_pos, q_neg, q_T, q_F, q_max0, q_flg1, q_flg0, q_min, q_min2, q_bit, q_some, h1, q_win, g2]
          · simp (disch := omega) only [fX5_alter, fX5_mostOf, fX5_becomes, lt, jn, q_lit, q_bnd, q_cl, q_le, q_lt, q_eq, pk_mul, nI_add, q_sub, q_div, q_pos, q_neg, q_T, q_F, q_max0, q_flg1, q_flg0, q_min, q_min2, q_bit, q_some, q_in5, q_in_0_127, q_in_0_1, q_in_0_2, q_in_0_3, q_in_0_4, q_in_0_5, q_in_0_9, q_in_0_10, q_in_0_20, q_in_1_20, q_in_48_57, q_in_97_122, q_inB, eb, q_win, m2]
        · refine ⟨-1, X, S, ?_, ?_, h⟩
          · simp (disch := omega) only [fX4_alter, fX4_mostOfTrait, lt, jn, q_lit, q_bnd, q_cl, q_le, q_lt, q_eq, pk_mul, nI_add, q_sub, q_div, q_pos, q_neg, q_T, q_F, q_max0, q_flg1, q_flg0, q_min, q_min2, q_bit, q_some, h1, q_win, v2]
          · simp (disch := omega) only [fX5_alter, fX5_mostOf, lt, jn, q_lit, q_bnd, q_cl, q_le, q_lt, q_eq, pk_mul, nI_add, q_sub, q_div, q_pos, q_neg, q_T, q_F, q_max0, q_flg1, q_flg0, q_min, q_min2, q_bit, q_some, q_in_0_127, q_in_0_1, q_in_0_2, q_in_0_3, q_in_0_4, q_in_0_5, q_in_0_9, q_in_0_10, q_in_0_20, q_in_1_20, q_in_48_57, q_in_97_122, q_inB, eb, q_win, v2]
      · rcases q_within y (a := 0) (b := 9) (by omega) with ⟨v, -, v2, rfl⟩ | ⟨-, v2⟩
        · refine ⟨nI (N 10 m), va_up X 2 _, va_up S 0 _, ?_, ?_, h.now (N' := va_up N 10 (va_up (N 10) m v)) hK e3 e4 rfl rfl (hW.tr2 (m := m) v2) hn (hC.tr2 m v) (by rw [q_up, if_pos rfl]; exact hM.tr2 hW hm) us0 (u62 (by omega))⟩
          · simp (disch := omega) only [fX4_alter, fX4_mostOfTrait, fX1_trait, fX1_setTrait, lt, jn, q_lit, q_bnd, q_cl, q_le, q_lt, q_eq, pk_mul, nI_add, q_sub, q_div, q_pos, q_neg, q_T, q_F, q_max0, q_flg1, q_flg0, q_min, q_min2, q_bit, q_some, h1, q_win, g3]
          · simp (disch := omega) only [fX5_alter, fX5_mostOf, fX5_becomes, lt, jn, q_lit, q_bnd, q_cl, q_le, q_lt, q_eq, pk_mul, nI_add, q_sub, q_div, q_pos, q_neg, q_T, q_F, q_max0, q_flg1, q_flg0, q_min, q_min2, q_bit, q_some, q_in5, q_in_0_127, q_in_0_1, q_in_0_2, q_in_0_3, q_in_0_4, q_in_0_5, q_in_0_9, q_in_0_10, q_in_0_20, q_in_1_20, q_in_48_57, q_in_97_122, q_inB, eb, q_win, m3]
        · refine ⟨-1, X, S, ?_, ?_, h⟩
          · simp (disch := omega) only [fX4_alter, fX4_mostOfTrait, lt, jn, q_lit, q_bnd, q_cl, q_le, q_lt, q_eq, pk_mul, nI_add, q_sub, q_div, q_pos, q_neg, q_T, q_F, q_max0, q_flg1, q_flg0, q_min, q_min2, q_bit, q_some, h1, q_win, v2]
          · simp (disch := omega) only [fX5_alter, fX5_mostOf, lt, jn, q_lit, q_bnd, q_cl, q_le, q_lt, q_eq, pk_mul, nI_add, q_sub, q_div, q_pos, q_neg, q_T, q_F, q_max0, q_flg1, q_flg0, q_min, q_min2, q_bit, q_some, q_in_0_127, q_in_0_1, q_in_0_2, q_in_0_3, q_in_0_4, q_in_0_5, q_in_0_9, q_in_0_10, q_in_0_20, q_in_1_20, q_in_48_57, q_in_97_122, q_inB, eb, q_win, v2]
      · rcases q_within y (a := 0) (b := 2) (by omega) with ⟨v, -, v2, rfl⟩ | ⟨-, v2⟩
        · refine ⟨nI (N 11 m), va_up X 2 _, va_up S 0 _, ?_, ?_, h.now (N' := va_up N 11 (va_up (N 11) m v)) hK e3 e4 rfl rfl (hW.tr3 (m := m) v2) hn (hC.tr3 m v) (by rw [q_up, if_pos rfl]; exact hM.tr3 hW hm) us0 (u62 (by omega))⟩
          · simp (disch := omega) only [fX4_alter, fX4_mostOfTrait, fX1_trait, fX1_setTrait, lt, jn, q_lit, q_bnd, q_cl, q_le, q_lt, q_eq, pk_mul, nI_add, q_sub, q_div, q_pos, q_neg, q_T, q_F, q_max0, q_flg1, q_flg0, q_min, q_min2, q_bit, q_some, h1, q_win, g4]
          · simp (disch := omega) only [fX5_alter, fX5_mostOf, fX5_becomes, lt, jn, q_lit, q_bnd, q_cl, q_le, q_lt, q_eq, pk_mul, nI_add, q_sub, q_div, q_pos, q_neg, q_T, q_F, q_max0, q_flg1, q_flg0, q_min, q_min2, q_bit, q_some, q_in5, q_in_0_127, q_in_0_1, q_in_0_2, q_in_0_3, q_in_0_4, q_in_0_5, q_in_0_9, q_in_0_10, q_in_0_20, q_in_1_20, q_in_48_57, q_in_97_122, q_inB, eb, q_win, m4]
        · refine ⟨-1, X, S, ?_, ?_, h⟩
          · simp (disch := omega) only [fX4_alter, fX4_mostOfTrait, lt, jn, q_lit, q_bnd, q_cl, q_le, q_lt, q_eq, pk_mul, nI_add, q_sub, q_div, q_pos, q_neg, q_T, q_F, q_max0, q_flg1, q_flg0, q_min, q_min2, q_bit, q_some, h1, q_win, v2]
          · simp (disch := omega) only [fX5_alter, fX5_mostOf, lt, jn, q_lit, q_bnd, q_cl, q_le, q_lt, q_eq, pk_mul, nI_add, q_sub, q_div, q_pos, q_neg, q_T, q_F, q_max0, q_flg1, q_flg0, q_min, q_min2, q_bit, q_some, q_in_0_127, q_in_0_1, q_in_0_2, q_in_0_3, q_in_0_4, q_in_0_5, q_in_0_9, q_in_0_10, q_in_0_20, q_in_1_20, q_in_48_57, q_in_97_122, q_inB, eb, q_win, v2]
    · refine ⟨-1, X, S, ?_, ?_, h⟩
      · simp (disch := omega) only [fX4_alter, lt, jn, q_lit, q_bnd, q_cl, q_le, q_lt, q_eq, pk_mul, nI_add, q_sub, q_div, q_pos, q_neg, q_T, q_F, q_max0, q_flg1, q_flg0, q_min, q_min2, q_bit, q_some, h1, j2]
      · simp (disch := omega) only [fX5_alter, lt, jn, q_lit, q_bnd, q_cl, q_le, q_lt, q_eq, pk_mul, nI_add, q_sub, q_div, q_pos, q_neg, q_T, q_F, q_max0, q_flg1, q_flg0, q_min, q_min2, q_bit, q_some, q_in_0_127, q_in_0_1, q_in_0_2, q_in_0_3, q_in_0_4, q_in_0_5, q_in_0_9, q_in_0_10, q_in_0_20, q_in_1_20, q_in_48_57, q_in_97_122, q_inB, eb, j2]
  · rw [h1] at eb
    refine ⟨-1, X, S, ?_, ?_, h⟩
    · simp (disch := omega) only [fX4_alter, lt, jn, q_lit, q_bnd, q_cl, q_le, q_lt, q_eq, pk_mul, nI_add, q_sub, q_div, q_pos, q_neg, q_T, q_F, q_max0, q_flg1, q_flg0, q_min, q_min2, q_bit, q_some, h1]
    · simp (disch := omega) only [fX5_alter, lt, jn, q_lit, q_bnd, q_cl, q_le, q_lt, q_eq, pk_mul, nI_add, q_sub, q_div, q_pos, q_neg, q_T, q_F, q_max0, q_flg1, q_flg0, q_min, q_min2, q_bit, q_some, eb]
end
section
theorem t_isPart (x : Int32) : (∃ j, j < 2 ∧ x = nI j ∧ fX5_isPart x = some (nI 1) ∧ fX4_within x (nI 0) (nI 1) = some (nI 1)) ∨ ((∀ j, j < 2 → x ≠ nI j) ∧ fX5_isPart x = some (nI 0) ∧ fX4_within x (nI 0) (nI 1) = some (nI 0)) := by
  rcases q_within x (a := 0) (b := 1) (by omega) with ⟨j, h1, h2, rfl⟩ | ⟨h1, h2⟩
  · refine Or.inl ⟨j, by omega, rfl, ?_, q_win (by omega)⟩
    rw [m_isPart, q_win (by omega), q_some]
    exact q_zb true _
  · refine Or.inr ⟨fun j h3 => h1 j (by omega) (by omega), ?_, h2⟩
    rw [m_isPart, h2, q_some]
    exact q_zb false _
theorem m_set0 {S : M2} (y : Int32) : fX5_set (nI 0) y S = (fX4_within y (nI 0) (nI 3)).bind fun r8 => if r8 = 0 then some ((-1 : Int32), S) else (fX5_becomes (46 : Int32) y S).bind fun q11 => some (q11.1, q11.2) := by
  have e6 : fX5_isPart (nI 0) = some (nI 1) := by
    rw [m_isPart, q_win (by omega), q_some]
    exact q_zb true _
  unfold fX5_set jn
  rw [e6, q_some, if_neg (by decide : ¬ nI 1 = 0)]
  have e0 : nI 0 = 0 := rfl
  simp only [e0, if_true, lt]
  rw [q_in_0_3]
  rfl
theorem m_set1 {S : M2} (y : Int32) : fX5_set (nI 1) y S = (fX4_within y (nI 1) (nI 9)).bind fun r8 => if r8 = 0 then some ((-1 : Int32), S) else (fX5_becomes (47 : Int32) y S).bind fun q11 => some (q11.1, q11.2) := by
  have e6 : fX5_isPart (nI 1) = some (nI 1) := by
    rw [m_isPart, q_win (by omega), q_some]
    exact q_zb true _
  unfold fX5_set jn
  rw [e6, q_some, if_neg (by decide : ¬ nI 1 = 0)]
  have e0 : ¬ nI 1 = 0 := by decide
  simp only [e0, if_false, lt]
  rw [q_in_1_9]
theorem k_set {X : M3} {S : M2} (h : R X S) (w y : Int32) : ∃ a X' S', fX4_set w y X = some (a, X') ∧ fX5_set w y S = some (a, S') ∧ R X' S' := by
  obtain ⟨N, B, hW, hn, hC, hM, e3, e4, hN, hK⟩ := h.data
  obtain ⟨⟨m1, m2, m3, m4⟩, mr⟩ := id hM
  obtain ⟨⟨c0, c4, c7, c12, c13, c14, c15⟩, cr⟩ := id hC
  have w1 := hW.1
  rcases t_isPart w with ⟨j, j2, rfl, e6, e7⟩ | ⟨j1, e6, e7⟩
  · rcases (by omega : j = 0 ∨ j = 1) with rfl | rfl
    · rcases q_within y (a := 0) (b := 3) (by omega) with ⟨v, -, v2, rfl⟩ | ⟨-, v2⟩
      · refine ⟨nI (N 12 0), va_up X 2 (va_up (X 2) 12 (fun _ => nI v)), va_up S 0 (upd (S 0) 46 (nI v)), ?_, ?_, h.now (N' := va_up N 12 (fun _ => v)) hK e3 e4 rfl rfl ⟨⟨w1.1, w1.2.1, w1.2.2.1, v2, w1.2.2.2.2⟩, hW.2⟩ hn ⟨⟨c0, c4, c7, rfl, c13, c14, c15⟩, cr⟩ ?_ us0 (u62 (by omega))⟩
        · simp (disch := omega) only [fX4_set, lt, jn, q_lit, q_bnd, q_cl, q_le, q_lt, q_eq, pk_mul, nI_add, q_sub, q_div, q_pos, q_neg, q_T, q_F, q_max0, q_flg1, q_flg0, q_min, q_min2, q_bit, q_some, q_win, c12]
        · rw [m_set0]
          simp (disch := omega) only [fX5_becomes, lt, jn, q_lit, q_bnd, q_cl, q_le, q_lt, q_eq, pk_mul, nI_add, q_sub, q_div, q_pos, q_neg, q_T, q_F, q_max0, q_flg1, q_flg0, q_min, q_min2, q_bit, q_some, q_win, m1]
        · rw [q_up, if_pos rfl]
          refine ⟨⟨rfl, m2, m3, m4⟩, fun b hb => ?_, fun m hm => ?_, fun i hi => ?_, fun k hk i c hc => ?_⟩
          · have hb2 : b < N 0 0 := hb
            rw [q_ud, if_neg (by omega), q_ud, if_neg (by omega), q_ud, if_neg (by omega), q_ud, if_neg (by omega)]; exact mr.1 b hb
          · have hm2 : m < N 7 0 := hm
            rw [q_ud, if_neg (by omega), q_ud, if_neg (by omega), q_ud, if_neg (by omega), q_ud, if_neg (by omega)]; exact mr.2.1 m hm
          · rw [q_ud, if_neg (by omega), q_ud, if_neg (by omega)]; exact mr.2.2.1 i hi
          · have hc2 := hW.2.2.2.2.lt hk (List.mem_of_getElem? hc)
            rw [q_ud, if_neg (by omega), q_ud, if_neg (by omega)]; exact mr.2.2.2 k hk i c hc
      · refine ⟨-1, X, S, ?_, ?_, h⟩
        · simp (disch := omega) only [fX4_set, lt, jn, q_lit, q_bnd, q_cl, q_le, q_lt, q_eq, pk_mul, nI_add, q_sub, q_div, q_pos, q_neg, q_T, q_F, q_max0, q_flg1, q_flg0, q_min, q_min2, q_bit, q_some, v2]
        · rw [m_set0]
          simp (disch := omega) only [lt, jn, q_lit, q_bnd, q_cl, q_le, q_lt, q_eq, pk_mul, nI_add, q_sub, q_div, q_pos, q_neg, q_T, q_F, q_max0, q_flg1, q_flg0, q_min, q_min2, q_bit, q_some, v2]
    · rcases q_within y (a := 1) (b := 9) (by omega) with ⟨v, v1, v2, rfl⟩ | ⟨-, v2⟩
      · refine ⟨nI (N 13 0), va_up X 2 (va_up (X 2) 13 (fun _ => nI v)), va_up S 0 (upd (S 0) 47 (nI v)), ?_, ?_, h.now (N' := va_up N 13 (fun _ => v)) hK e3 e4 rfl rfl ⟨⟨w1.1, w1.2.1, w1.2.2.1, w1.2.2.2.1, v1, v2, w1.2.2.2.2.2.2⟩, hW.2⟩ hn ⟨⟨c0, c4, c7, c12, rfl, c14, c15⟩, cr⟩ ?_ us0 (u62 (by omega))⟩
        · simp (disch := omega) only [fX4_set, lt, jn, q_lit, q_bnd, q_cl, q_le, q_lt, q_eq, pk_mul, nI_add, q_sub, q_div, q_pos, q_neg, q_T, q_F, q_max0, q_flg1, q_flg0, q_min, q_min2, q_bit, q_some, q_win, c13]
        · rw [m_set1]
          simp (disch := omega) only [fX5_becomes, lt, jn, q_lit, q_bnd, q_cl, q_le, q_lt, q_eq, pk_mul, nI_add, q_sub, q_div, q_pos, q_neg, q_T, q_F, q_max0, q_flg1, q_flg0, q_min, q_min2, q_bit, q_some, q_win, m2]
        · rw [q_up, if_pos rfl]
          refine ⟨⟨m1, rfl, m3, m4⟩, fun b hb => ?_, fun m hm => ?_, fun i hi => ?_, fun k hk i c hc => ?_⟩
          · have hb2 : b < N 0 0 := hb
            rw [q_ud, if_neg (by omega), q_ud, if_neg (by omega), q_ud, if_neg (by omega), q_ud, if_neg (by omega)]; exact mr.1 b hb
          · have hm2 : m < N 7 0 := hm
            rw [q_ud, if_neg (by omega), q_ud, if_neg (by omega), q_ud, if_neg (by omega), q_ud, if_neg (by omega)]; exact mr.2.1 m hm
          · rw [q_ud, if_neg (by omega), q_ud, if_neg (by omega)]; exact mr.2.2.1 i hi
          · have hc2 := hW.2.2.2.2.lt hk (List.mem_of_getElem? hc)
            rw [q_ud, if_neg (by omega), q_ud, if_neg (by omega)]; exact mr.2.2.2 k hk i c hc
      · refine ⟨-1, X, S, ?_, ?_, h⟩
        · simp (disch := omega) only [fX4_set, lt, jn, q_lit, q_bnd, q_cl, q_le, q_lt, q_eq, pk_mul, nI_add, q_sub, q_div, q_pos, q_neg, q_T, q_F, q_max0, q_flg1, q_flg0, q_min, q_min2, q_bit, q_some, v2]
        · rw [m_set1]
          simp (disch := omega) only [lt, jn, q_lit, q_bnd, q_cl, q_le, q_lt, q_eq, pk_mul, nI_add, q_sub, q_div, q_pos, q_neg, q_T, q_F, q_max0, q_flg1, q_flg0, q_min, q_min2, q_bit, q_some, v2]
  · have x0 := j1 0 (by omega)
    have x1 := j1 1 (by omega)
    refine ⟨-1, X, S, ?_, ?_, h⟩
    · simp (disch := omega) only [fX4_set, lt, jn, q_lit, q_bnd, q_cl, q_le, q_lt, q_eq, pk_mul, nI_add, q_sub, q_div, q_pos, q_neg, q_T, q_F, q_max0, q_flg1, q_flg0, q_min, q_min2, q_bit, q_some, x0, x1]
    · simp (disch := omega) only [fX5_set, lt, jn, q_lit, q_bnd, q_cl, q_le, q_lt, q_eq, pk_mul, nI_add, q_sub, q_div, q_pos, q_neg, q_T, q_F, q_max0, q_flg1, q_flg0, q_min, q_min2, q_bit, q_some, e6]
theorem k_see {X : M3} {S : M2} (h : R X S) (x y : Int32) : ∃ a X' S', fX4_see x y X = some (a, X') ∧ fX5_see x y S = some (a, S') ∧ R X' S' := by
  obtain ⟨N, B, hW, hn, hC, hM, e3, e4, hN, hK⟩ := h.data
  obtain ⟨⟨m1, m2, m3, m4⟩, mr⟩ := id hM
  obtain ⟨⟨c0, c4, c7, c12, c13, c14, c15⟩, cr⟩ := id hC
  have w1 := hW.1
  have eb : fX5_isBolt x S = fX1_hasBolt x (X 2) := m_isBolt (e3.trans hC.1.1.symm) x
  rcases t_hasBolt hC.1.1 w1.1 x with ⟨b, hb, rfl, h1⟩ | ⟨-, h1⟩
  · rw [h1] at eb
    rcases q_within y (a := 0) (b := 9) (by omega) with ⟨v, -, v2, rfl⟩ | ⟨-, v2⟩
    · by_cases e : N 15 0 < 6
      · refine ⟨nI (N 15 0 + 1), va_up X 2 (va_up (va_up (va_up (X 2) 16 (upd (X 2 16) (N 15 0) (nI b))) 17 (upd (X 2 17) (N 15 0) (nI v))) 15 (fun _ => nI (N 15 0 + 1))), va_up S 0 (upd (upd (upd (S 0) (50 + 2 * N 15 0) (nI b)) (50 + 2 * N 15 0 + 1) (nI v)) 49 (nI (N 15 0 + 1))), ?_, ?_, h.now (N' := va_up (va_up (va_up N 16 (va_up (N 16) (N 15 0) b)) 17 (va_up (N 17) (N 15 0) v)) 15 (fun _ => N 15 0 + 1)) hK e3 e4 rfl rfl ⟨⟨w1.1, w1.2.1, w1.2.2.1, w1.2.2.2.1, w1.2.2.2.2.1, w1.2.2.2.2.2.1, (by show N 15 0 + 1 ≤ 6; omega)⟩, hW.2.1, hW.2.2.1, fun i hi => ?_, hW.2.2.2.2⟩ hn ⟨⟨c0, c4, c7, c12, c13, c14, rfl⟩, cr.1, cr.2.1, fun i hi => ?_, cr.2.2.2⟩ ?_ us0 (fun x hx => ?_)⟩
        · simp (disch := omega) only [fX4_see, lt, jn, q_lit, q_bnd, q_cl, q_le, q_lt, q_eq, pk_mul, nI_add, q_sub, q_div, q_pos, q_neg, q_T, q_F, q_max0, q_flg1, q_flg0, q_min, q_min2, q_bit, q_some, h1, q_win, c15, q_up, up_up]
        · simp (disch := omega) only [fX5_see, lt, jn, q_lit, q_bnd, q_cl, q_le, q_lt, q_eq, pk_mul, nI_add, q_sub, q_div, q_pos, q_neg, q_T, q_F, q_max0, q_flg1, q_flg0, q_min, q_min2, q_bit, q_some, q_in_0_127, q_in_0_1, q_in_0_2, q_in_0_3, q_in_0_4, q_in_0_5, q_in_0_9, q_in_0_10, q_in_0_20, q_in_1_20, q_in_48_57, q_in_97_122, q_inB, eb, q_win, m4, q_up, q_ud, up_up]
        · have hi2 : i < N 15 0 + 1 := hi
          show va_up (N 16) (N 15 0) b i < N 0 0 ∧ va_up (N 17) (N 15 0) v i ≤ 9
          rw [q_up, q_up]
          by_cases e5 : i = N 15 0
          · rw [if_pos e5, if_pos e5]
            exact ⟨hb, v2⟩
          · rw [if_neg e5, if_neg e5]
            exact hW.2.2.2.1 i (by omega)
        · have hi2 : i < N 15 0 + 1 := hi
          show upd (X 2 16) (N 15 0) (nI b) i = nI (va_up (N 16) (N 15 0) b i) ∧ upd (X 2 17) (N 15 0) (nI v) i = nI (va_up (N 17) (N 15 0) v i)
          rw [q_up, q_up, q_ud, q_ud]
          by_cases e5 : i = N 15 0
          · rw [if_pos e5, if_pos e5, if_pos e5, if_pos e5]
            exact ⟨rfl, rfl⟩
          · rw [if_neg e5, if_neg e5, if_neg e5, if_neg e5]
            exact cr.2.2.1 i (by omega)
        · rw [q_up, if_pos rfl]
          refine ⟨⟨?_, ?_, ?_, rfl⟩, fun b' hb => ⟨?_, ?_, ?_, ?_⟩, fun m hm => ⟨?_, ?_, ?_, ?_⟩, fun i hi => ⟨?_, ?_⟩, fun k hk i c hc => ⟨?_, ?_⟩⟩
          · simp (disch := omega) only [q_ud, q_neg]; exact m1
          · simp (disch := omega) only [q_ud, q_neg]; exact m2
          · simp (disch := omega) only [q_ud, q_neg]; exact m3
          · have hb2 : b' < N 0 0 := hb
            simp (disch := omega) only [q_ud, q_neg]; exact (mr.1 b' hb).1
          · have hb2 : b' < N 0 0 := hb
            simp (disch := omega) only [q_ud, q_neg]; exact (mr.1 b' hb).2.1
          · have hb2 : b' < N 0 0 := hb
            simp (disch := omega) only [q_ud, q_neg]; exact (mr.1 b' hb).2.2.1
          · have hb2 : b' < N 0 0 := hb
            simp (disch := omega) only [q_ud, q_neg]; exact (mr.1 b' hb).2.2.2
          · have hm2 : m < N 7 0 := hm
            simp (disch := omega) only [q_ud, q_neg]; exact (mr.2.1 m hm).1
          · have hm2 : m < N 7 0 := hm
            simp (disch := omega) only [q_ud, q_neg]; exact (mr.2.1 m hm).2.1
          · have hm2 : m < N 7 0 := hm
            simp (disch := omega) only [q_ud, q_neg]; exact (mr.2.1 m hm).2.2.1
          · have hm2 : m < N 7 0 := hm
            simp (disch := omega) only [q_ud, q_neg]; exact (mr.2.1 m hm).2.2.2
          · have hi2 : i < N 15 0 + 1 := hi
            show _ = nI (va_up (N 16) (N 15 0) b i)
            rw [q_up]
            by_cases e5 : i = N 15 0
            · rw [if_pos e5, e5]
              simp (disch := omega) only [q_ud, q_neg, q_T]
            · rw [if_neg e5]
              simp (disch := omega) only [q_ud, q_neg]; exact (mr.2.2.1 i (by omega)).1
          · have hi2 : i < N 15 0 + 1 := hi
            show _ = nI (va_up (N 17) (N 15 0) v i)
            rw [q_up]
            by_cases e5 : i = N 15 0
            · rw [if_pos e5, e5]
              simp (disch := omega) only [q_ud, q_neg, q_T]
            · rw [if_neg e5]
              simp (disch := omega) only [q_ud, q_neg]; exact (mr.2.2.1 i (by omega)).2
          · have hc2 := hW.2.2.2.2.lt hk (List.mem_of_getElem? hc)
            simp (disch := omega) only [q_ud, q_neg]; exact (mr.2.2.2 k hk i c hc).1
          · have hc2 := hW.2.2.2.2.lt hk (List.mem_of_getElem? hc)
            simp (disch := omega) only [q_ud, q_neg]; exact (mr.2.2.2 k hk i c hc).2
        · rw [q_up, if_pos rfl]
          simp (disch := omega) only [q_ud, q_neg]
      · refine ⟨-3, X, S, ?_, ?_, h⟩
        · simp (disch := omega) only [fX4_see, lt, jn, q_lit, q_bnd, q_cl, q_le, q_lt, q_eq, pk_mul, nI_add, q_sub, q_div, q_pos, q_neg, q_T, q_F, q_max0, q_flg1, q_flg0, q_min, q_min2, q_bit, q_some, h1, q_win, c15]
        · simp (disch := omega) only [fX5_see, lt, jn, q_lit, q_bnd, q_cl, q_le, q_lt, q_eq, pk_mul, nI_add, q_sub, q_div, q_pos, q_neg, q_T, q_F, q_max0, q_flg1, q_flg0, q_min, q_min2, q_bit, q_some, q_in_0_127, q_in_0_1, q_in_0_2, q_in_0_3, q_in_0_4, q_in_0_5, q_in_0_9, q_in_0_10, q_in_0_20, q_in_1_20, q_in_48_57, q_in_97_122, q_inB, eb, q_win, m4]
    · refine ⟨-1, X, S, ?_, ?_, h⟩
      · simp (disch := omega) only [fX4_see, lt, jn, q_lit, q_bnd, q_cl, q_le, q_lt, q_eq, pk_mul, nI_add, q_sub, q_div, q_pos, q_neg, q_T, q_F, q_max0, q_flg1, q_flg0, q_min, q_min2, q_bit, q_some, h1, v2]
      · simp (disch := omega) only [fX5_see, lt, jn, q_lit, q_bnd, q_cl, q_le, q_lt, q_eq, pk_mul, nI_add, q_sub, q_div, q_pos, q_neg, q_T, q_F, q_max0, q_flg1, q_flg0, q_min, q_min2, q_bit, q_some, q_in_0_127, q_in_0_1, q_in_0_2, q_in_0_3, q_in_0_4, q_in_0_5, q_in_0_9, q_in_0_10, q_in_0_20, q_in_1_20, q_in_48_57, q_in_97_122, q_inB, eb, v2]
  · rw [h1] at eb
    refine ⟨-1, X, S, ?_, ?_, h⟩
    · simp (disch := omega) only [fX4_see, lt, jn, q_lit, q_bnd, q_cl, q_le, q_lt, q_eq, pk_mul, nI_add, q_sub, q_div, q_pos, q_neg, q_T, q_F, q_max0, q_flg1, q_flg0, q_min, q_min2, q_bit, q_some, h1]
    · simp (disch := omega) only [fX5_see, lt, jn, q_lit, q_bnd, q_cl, q_le, q_lt, q_eq, pk_mul, nI_add, q_sub, q_div, q_pos, q_neg, q_T, q_F, q_max0, q_flg1, q_flg0, q_min, q_min2, q_bit, q_some, eb]
theorem k_forget {X : M3} {S : M2} (h : R X S) (x : Int32) : ∃ a X' S', fX4_forget x X = some (a, X') ∧ fX5_forget x S = some (a, S') ∧ R X' S' := by
  obtain ⟨N, B, hW, hn, hC, hM, e3, e4, hN, hK⟩ := h.data
  obtain ⟨⟨m1, m2, m3, m4⟩, mr⟩ := id hM
  obtain ⟨⟨c0, c4, c7, c12, c13, c14, c15⟩, cr⟩ := id hC
  have w1 := hW.1
  rcases q_within x (a := 0) (b := N 15 0) (by omega) with ⟨v, -, v2, rfl⟩ | ⟨-, v2⟩
  · refine ⟨nI (N 15 0), va_up X 2 (va_up (X 2) 15 (fun _ => nI v)), va_up S 0 (upd (S 0) 49 (nI v)), ?_, ?_, h.now (N' := va_up N 15 (fun _ => v)) hK e3 e4 rfl rfl ⟨⟨w1.1, w1.2.1, w1.2.2.1, w1.2.2.2.1, w1.2.2.2.2.1, w1.2.2.2.2.2.1, (by show v ≤ 6; omega)⟩, hW.2.1, hW.2.2.1, fun i hi => hW.2.2.2.1 i (Nat.lt_of_lt_of_le hi v2), hW.2.2.2.2⟩ hn ⟨⟨c0, c4, c7, c12, c13, c14, rfl⟩, cr.1, cr.2.1, fun i hi => cr.2.2.1 i (Nat.lt_of_lt_of_le hi v2), cr.2.2.2⟩ ?_ us0 (u62 (by omega))⟩
    · simp (disch := omega) only [fX4_forget, lt, jn, q_lit, q_bnd, q_cl, q_le, q_lt, q_eq, pk_mul, nI_add, q_sub, q_div, q_pos, q_neg, q_T, q_F, q_max0, q_flg1, q_flg0, q_min, q_min2, q_bit, q_some, c15, q_win]
    · simp (disch := omega) only [fX5_forget, fX5_becomes, lt, jn, q_lit, q_bnd, q_cl, q_le, q_lt, q_eq, pk_mul, nI_add, q_sub, q_div, q_pos, q_neg, q_T, q_F, q_max0, q_flg1, q_flg0, q_min, q_min2, q_bit, q_some, q_in_0_127, q_in_0_1, q_in_0_2, q_in_0_3, q_in_0_4, q_in_0_5, q_in_0_9, q_in_0_10, q_in_0_20, q_in_1_20, q_in_48_57, q_in_97_122, q_inB, m4, q_win]
    · rw [q_up, if_pos rfl]
      refine ⟨⟨m1, m2, m3, rfl⟩, fun b hb => ?_, fun m hm => ?_, fun i hi => ?_, fun k hk i c hc => ?_⟩
      · have hb2 : b < N 0 0 := hb
        rw [q_ud, if_neg (by omega), q_ud, if_neg (by omega), q_ud, if_neg (by omega), q_ud, if_neg (by omega)]; exact mr.1 b hb
      · have hm2 : m < N 7 0 := hm
        rw [q_ud, if_neg (by omega), q_ud, if_neg (by omega), q_ud, if_neg (by omega), q_ud, if_neg (by omega)]; exact mr.2.1 m hm
      · rw [q_ud, if_neg (by omega), q_ud, if_neg (by omega)]; exact mr.2.2.1 i (Nat.lt_of_lt_of_le hi v2)
      · have hc2 := hW.2.2.2.2.lt hk (List.mem_of_getElem? hc)
        rw [q_ud, if_neg (by omega), q_ud, if_neg (by omega)]; exact mr.2.2.2 k hk i c hc
  · refine ⟨-1, X, S, ?_, ?_, h⟩
    · simp (disch := omega) only [fX4_forget, lt, jn, q_lit, q_bnd, q_cl, q_le, q_lt, q_eq, pk_mul, nI_add, q_sub, q_div, q_pos, q_neg, q_T, q_F, q_max0, q_flg1, q_flg0, q_min, q_min2, q_bit, q_some, c15, v2]
    · simp (disch := omega) only [fX5_forget, lt, jn, q_lit, q_bnd, q_cl, q_le, q_lt, q_eq, pk_mul, nI_add, q_sub, q_div, q_pos, q_neg, q_T, q_F, q_max0, q_flg1, q_flg0, q_min, q_min2, q_bit, q_some, q_in_0_127, q_in_0_1, q_in_0_2, q_in_0_3, q_in_0_4, q_in_0_5, q_in_0_9, q_in_0_10, q_in_0_20, q_in_1_20, q_in_48_57, q_in_97_122, q_inB, m4, v2]
end
section
theorem spNights_0 {N : NN} {B : BB} : ∀ n : Nat, spNights N B n 0 0 = N 0 0 ∧ spNights N B n 7 0 = N 7 0 ∧ spNights N B n 14 0 = N 14 0 + n ∧ spNights N B n 15 = N 15 ∧ spNights N B n 16 = N 16 ∧ spNights N B n 17 = N 17
  | 0 => ⟨rfl, rfl, rfl, rfl, rfl, rfl⟩
  | n + 1 => by
    obtain ⟨h1, h2, h3, h4, h5, h6⟩ := spNights_0 (N := N) (B := B) n
    refine ⟨h1, h2, ?_, h4, h5, h6⟩
    show spNights N B n 14 0 + 1 = _
    omega
theorem t_go_L {X : M3} {N : NN} {B : BB} {n : Nat} (hn : n ≤ 100) : ∀ (d t f : Nat) (Q : M2), t + d = n → d < f → CS (spNights N B t) B Q → WF (spNights N B t) B → ∃ Q', (∀ kk : M3 → Option (Int32 × M3), fX4_go_L32 (nI n) kk f (nI t) (va_up X 2 Q) = kk (va_up X 2 Q')) ∧ CS (spNights N B n) B Q' ∧ WF (spNights N B n) B
  | 0, t, f + 1, Q, ht, hd, hS, hW => by
    have e2 : t = n := by omega
    subst e2
    refine ⟨Q, fun kk => ?_, hS, hW⟩
    simp (disch := omega) only [fX4_go_L32, lt, jn, q_lit, q_bnd, q_cl, q_le, q_lt, q_eq, pk_mul, nI_add, q_sub, q_div, q_pos, q_neg, q_T, q_F, q_max0, q_flg1, q_flg0, q_min, q_min2, q_bit, q_some]
  | d + 1, t, f + 1, Q, ht, hd, hS, hW => by
    obtain ⟨Q1, i1, i2, i3⟩ := t_pass hS hW
    obtain ⟨Q2, j1, j2⟩ := t_go_L (X := X) (N := N) (B := B) hn d (t + 1) f Q1 (by omega) (by omega) i2 i3
    refine ⟨Q2, fun kk => ?_, j2⟩
    simp (disch := omega) only [fX4_go_L32, lt, jn, q_lit, q_bnd, q_cl, q_le, q_lt, q_eq, pk_mul, nI_add, q_sub, q_div, q_pos, q_neg, q_T, q_F, q_max0, q_flg1, q_flg0, q_min, q_min2, q_bit, q_some, q_up, i1, up_up, j1]
theorem t_ahead_L {X : M3} {N : NN} {B : BB} {n : Nat} (hn : n ≤ 100) (w : Int32) : ∀ (d t f : Nat) (Q : M2), t + d = n → d < f → CS (spNights N B t) B Q → WF (spNights N B t) B → ∃ Q', (∀ kk : M3 → Option (Int32 × M3), fX4_ahead_L34 (nI n) w kk f (nI t) (va_up X 3 Q) = kk (va_up X 3 Q')) ∧ CS (spNights N B n) B Q' ∧ WF (spNights N B n) B
  | 0, t, f + 1, Q, ht, hd, hS, hW => by
    have e2 : t = n := by omega
    subst e2
    refine ⟨Q, fun kk => ?_, hS, hW⟩
    simp (disch := omega) only [fX4_ahead_L34, lt, jn, q_lit, q_bnd, q_cl, q_le, q_lt, q_eq, pk_mul, nI_add, q_sub, q_div, q_pos, q_neg, q_T, q_F, q_max0, q_flg1, q_flg0, q_min, q_min2, q_bit, q_some]
  | d + 1, t, f + 1, Q, ht, hd, hS, hW => by
    obtain ⟨Q1, i1, i2, i3⟩ := t_pass hS hW
    obtain ⟨Q2, j1, j2⟩ := t_ahead_L (X := X) (N := N) (B := B) hn w d (t + 1) f Q1 (by omega) (by omega) i2 i3
    refine ⟨Q2, fun kk => ?_, j2⟩
    simp (disch := omega) only [fX4_ahead_L34, lt, jn, q_lit, q_bnd, q_cl, q_le, q_lt, q_eq, pk_mul, nI_add, q_sub, q_div, q_pos, q_neg, q_T, q_F, q_max0, q_flg1, q_flg0, q_min, q_min2, q_bit, q_some, q_up, i1, up_up, j1]
theorem k_go {X : M3} {S : M2} (h : R X S) (x : Int32) : ∃ a X' S', fX4_go x X = some (a, X') ∧ fX5_go x S = some (a, S') ∧ R X' S' := by
  obtain ⟨N, B, hW, hn, hC, hM, e3, e4, hN, hK⟩ := h.data
  rcases q_within x (a := 0) (b := 20) (by omega) with ⟨n, -, j2, rfl⟩ | ⟨-, j2⟩
  · have c14 := hC.1.2.2.2.2.2.1
    have m48 := hM.1.2.2.1
    by_cases e : N 14 0 + n ≤ 999
    · obtain ⟨Q, q1, q2, q3⟩ := t_go_L (X := X) (N := N) (B := B) (n := n) (by omega) n 0 400 (X 2) (by omega) (by omega) hC hW
      rw [up_id] at q1
      obtain ⟨S1, i1, i2, -⟩ := hN.starts
      obtain ⟨S2, j1, j2', j3⟩ := m_nights (n := n) (by omega) i2 hW
      obtain ⟨S3, l1, l2, l3, l4, l5⟩ := m_settles j2' q3
      obtain ⟨z0, z7, z14, -⟩ := spNights_0 (N := N) (B := B) n
      have l3' : S3 3 0 = nI (spNights N B n 0 0) := by rw [l2 3 (by decide) (by decide), z0]; exact e3
      have l4' : S3 4 0 = nI (spNights N B n 7 0) := by rw [l2 4 (by decide) (by decide), z7]; exact e4
      have hd := m_dutyAll (S0 := S3) (S := S3) ⟨fun _ _ => rfl, l3', l4', l4⟩ q3
      have hd2 := t_dutyAll q2 q3
      refine ⟨nI (spAll (spNights N B n) B), va_up X 2 Q, S3, ?_, ?_, h.now hK e3 e4 z0 z7 q3 (by omega) q2 l3 l2 l5⟩
      · simp (disch := omega) only [fX4_go, lt, jn, q_lit, q_bnd, q_cl, q_le, q_lt, q_eq, pk_mul, nI_add, q_sub, q_div, q_pos, q_neg, q_T, q_F, q_max0, q_flg1, q_flg0, q_min, q_min2, q_bit, q_some, q_win, c14, q1, q_up, hd2]
      · simp (disch := omega) only [fX5_go, lt, jn, q_lit, q_bnd, q_cl, q_le, q_lt, q_eq, pk_mul, nI_add, q_sub, q_div, q_pos, q_neg, q_T, q_F, q_max0, q_flg1, q_flg0, q_min, q_min2, q_bit, q_some, q_in_0_127, q_in_0_1, q_in_0_2, q_in_0_3, q_in_0_4, q_in_0_5, q_in_0_9, q_in_0_10, q_in_0_20, q_in_1_20, q_in_48_57, q_in_97_122, q_inB, q_win, m48, i1, j1, l1, hd]
    · refine ⟨-3, X, S, ?_, ?_, h⟩
      · simp (disch := omega) only [fX4_go, lt, jn, q_lit, q_bnd, q_cl, q_le, q_lt, q_eq, pk_mul, nI_add, q_sub, q_div, q_pos, q_neg, q_T, q_F, q_max0, q_flg1, q_flg0, q_min, q_min2, q_bit, q_some, q_win, c14]
      · simp (disch := omega) only [fX5_go, lt, jn, q_lit, q_bnd, q_cl, q_le, q_lt, q_eq, pk_mul, nI_add, q_sub, q_div, q_pos, q_neg, q_T, q_F, q_max0, q_flg1, q_flg0, q_min, q_min2, q_bit, q_some, q_in_0_127, q_in_0_1, q_in_0_2, q_in_0_3, q_in_0_4, q_in_0_5, q_in_0_9, q_in_0_10, q_in_0_20, q_in_1_20, q_in_48_57, q_in_97_122, q_inB, q_win, m48]
  · refine ⟨-1, X, S, ?_, ?_, h⟩
    · simp (disch := omega) only [fX4_go, lt, jn, q_lit, q_bnd, q_cl, q_le, q_lt, q_eq, pk_mul, nI_add, q_sub, q_div, q_pos, q_neg, q_T, q_F, q_max0, q_flg1, q_flg0, q_min, q_min2, q_bit, q_some, j2]
    · simp (disch := omega) only [fX5_go, lt, jn, q_lit, q_bnd, q_cl, q_le, q_lt, q_eq, pk_mul, nI_add, q_sub, q_div, q_pos, q_neg, q_T, q_F, q_max0, q_flg1, q_flg0, q_min, q_min2, q_bit, q_some, q_in_0_127, q_in_0_1, q_in_0_2, q_in_0_3, q_in_0_4, q_in_0_5, q_in_0_9, q_in_0_10, q_in_0_20, q_in_1_20, q_in_48_57, q_in_97_122, q_inB, j2]
theorem k_ahead {X : M3} {S : M2} (h : R X S) (x w : Int32) : ∃ a X' S', fX4_ahead x w X = some (a, X') ∧ fX5_ahead x w S = some (a, S') ∧ R X' S' := by
  obtain ⟨N, B, hW, hn, hC, hM, e3, e4, hN, hK⟩ := h.data
  rcases q_within x (a := 0) (b := 20) (by omega) with ⟨n, -, j2, rfl⟩ | ⟨-, j2⟩
  · rcases q_within w (a := 0) (b := 2) (by omega) with ⟨v, -, v2, rfl⟩ | ⟨-, v2⟩
    · obtain ⟨Q0, c1, c2⟩ := t_copy (X 3) hC hW
      obtain ⟨Q, q1, q2, q3⟩ := t_ahead_L (X := X) (N := N) (B := B) (n := n) (by omega) (nI v) n 0 400 Q0 (by omega) (by omega) c2 hW
      obtain ⟨S1, i1, i2, -⟩ := hN.starts
      obtain ⟨S2, j1, j2', j3⟩ := m_nights (n := n) (by omega) i2 hW
      have hR := (h.xe (X' := va_up X 3 Q) xe3).me (ME.ma j2')
      rcases (by omega : v = 0 ∨ v = 1 ∨ v = 2) with rfl | rfl | rfl
      · refine ⟨nI (spAll (spNights N B n) B), va_up X 3 Q, S2, ?_, ?_, hR⟩
        · simp (disch := omega) only [fX4_ahead, lt, jn, q_lit, q_bnd, q_cl, q_le, q_lt, q_eq, pk_mul, nI_add, q_sub, q_div, q_pos, q_neg, q_T, q_F, q_max0, q_flg1, q_flg0, q_min, q_min2, q_bit, q_some, q_win, c1, q1, q_up, t_dutyAll q2 q3]
        · simp (disch := omega) only [fX5_ahead, lt, jn, q_lit, q_bnd, q_cl, q_le, q_lt, q_eq, pk_mul, nI_add, q_sub, q_div, q_pos, q_neg, q_T, q_F, q_max0, q_flg1, q_flg0, q_min, q_min2, q_bit, q_some, q_in_0_127, q_in_0_1, q_in_0_2, q_in_0_3, q_in_0_4, q_in_0_5, q_in_0_9, q_in_0_10, q_in_0_20, q_in_1_20, q_in_48_57, q_in_97_122, q_inB, q_win, i1, j1, m_dutyAll j2' j3]
      · refine ⟨nI (spSum (spNights N B n 3) (spNights N B n 0 0)), va_up X 3 Q, S2, ?_, ?_, hR⟩
        · simp (disch := omega) only [fX4_ahead, lt, jn, q_lit, q_bnd, q_cl, q_le, q_lt, q_eq, pk_mul, nI_add, q_sub, q_div, q_pos, q_neg, q_T, q_F, q_max0, q_flg1, q_flg0, q_min, q_min2, q_bit, q_some, q_win, c1, q1, q_up, t_sum q2 q3]
        · simp (disch := omega) only [fX5_ahead, lt, jn, q_lit, q_bnd, q_cl, q_le, q_lt, q_eq, pk_mul, nI_add, q_sub, q_div, q_pos, q_neg, q_T, q_F, q_max0, q_flg1, q_flg0, q_min, q_min2, q_bit, q_some, q_in_0_127, q_in_0_1, q_in_0_2, q_in_0_3, q_in_0_4, q_in_0_5, q_in_0_9, q_in_0_10, q_in_0_20, q_in_1_20, q_in_48_57, q_in_97_122, q_inB, q_win, i1, j1, m_sum j2' j3]
      · refine ⟨nI (spBits (spEaten (spNights N B n)) (spNights N B n 0 0)), va_up X 3 Q, S2, ?_, ?_, hR⟩
        · simp (disch := omega) only [fX4_ahead, lt, jn, q_lit, q_bnd, q_cl, q_le, q_lt, q_eq, pk_mul, nI_add, q_sub, q_div, q_pos, q_neg, q_T, q_F, q_max0, q_flg1, q_flg0, q_min, q_min2, q_bit, q_some, q_win, c1, q1, q_up, t_eatenUp q2 q3]
        · simp (disch := omega) only [fX5_ahead, lt, jn, q_lit, q_bnd, q_cl, q_le, q_lt, q_eq, pk_mul, nI_add, q_sub, q_div, q_pos, q_neg, q_T, q_F, q_max0, q_flg1, q_flg0, q_min, q_min2, q_bit, q_some, q_in_0_127, q_in_0_1, q_in_0_2, q_in_0_3, q_in_0_4, q_in_0_5, q_in_0_9, q_in_0_10, q_in_0_20, q_in_1_20, q_in_48_57, q_in_97_122, q_inB, q_win, i1, j1, m_eaten j2' j3]
    · refine ⟨-1, X, S, ?_, ?_, h⟩
      · simp (disch := omega) only [fX4_ahead, lt, jn, q_lit, q_bnd, q_cl, q_le, q_lt, q_eq, pk_mul, nI_add, q_sub, q_div, q_pos, q_neg, q_T, q_F, q_max0, q_flg1, q_flg0, q_min, q_min2, q_bit, q_some, q_win, v2]
      · simp (disch := omega) only [fX5_ahead, lt, jn, q_lit, q_bnd, q_cl, q_le, q_lt, q_eq, pk_mul, nI_add, q_sub, q_div, q_pos, q_neg, q_T, q_F, q_max0, q_flg1, q_flg0, q_min, q_min2, q_bit, q_some, q_in_0_127, q_in_0_1, q_in_0_2, q_in_0_3, q_in_0_4, q_in_0_5, q_in_0_9, q_in_0_10, q_in_0_20, q_in_1_20, q_in_48_57, q_in_97_122, q_inB, q_win, v2]
  · refine ⟨-1, X, S, ?_, ?_, h⟩
    · simp (disch := omega) only [fX4_ahead, lt, jn, q_lit, q_bnd, q_cl, q_le, q_lt, q_eq, pk_mul, nI_add, q_sub, q_div, q_pos, q_neg, q_T, q_F, q_max0, q_flg1, q_flg0, q_min, q_min2, q_bit, q_some, j2]
    · simp (disch := omega) only [fX5_ahead, lt, jn, q_lit, q_bnd, q_cl, q_le, q_lt, q_eq, pk_mul, nI_add, q_sub, q_div, q_pos, q_neg, q_T, q_F, q_max0, q_flg1, q_flg0, q_min, q_min2, q_bit, q_some, q_in_0_127, q_in_0_1, q_in_0_2, q_in_0_3, q_in_0_4, q_in_0_5, q_in_0_9, q_in_0_10, q_in_0_20, q_in_1_20, q_in_48_57, q_in_97_122, q_inB, j2]
theorem k_when_L {X : M3} {S : M2} {N : NN} {B : BB} {b : Nat} (hb : b < N 0 0) : ∀ (d t f g : Nat) (Q S1 : M2), t + d = 41 → d < f → d < g → CS (spNights N B t) B Q → WF (spNights N B t) B → MA (spNights N B t) B S S1 → ∃ a Q' S', fX4_when_L26 (nI b) (fun p12 => some (-4, p12)) f (nI t) (va_up X 3 Q) = some (a, va_up X 3 Q') ∧ fX5_when_L16 (nI b) (fun p12 => some (-4, p12)) g (nI t) S1 = some (a, S') ∧ ME S S'
  | 0, t, f + 1, g + 1, Q, S1, ht, hf, hg, hS, hW, hM => by
    have e2 : t = 41 := by omega
    subst e2
    refine ⟨-4, Q, S1, ?_, ?_, hM.1⟩
    · simp (disch := omega) only [fX4_when_L26, lt, jn, q_lit, q_bnd, q_cl, q_le, q_lt, q_eq, pk_mul, nI_add, q_sub, q_div, q_pos, q_neg, q_T, q_F, q_max0, q_flg1, q_flg0, q_min, q_min2, q_bit, q_some]
    · simp (disch := omega) only [fX5_when_L16, lt, jn, q_lit, q_bnd, q_cl, q_le, q_lt, q_eq, pk_mul, nI_add, q_sub, q_div, q_pos, q_neg, q_T, q_F, q_max0, q_flg1, q_flg0, q_min, q_min2, q_bit, q_some]
  | d + 1, t, f + 1, g + 1, Q, S1, ht, hf, hg, hS, hW, hM => by
    have hb' : b < spNights N B t 0 0 := by rw [(spNights_0 t).1]; exact hb
    have e1 := t_eaten hS hW hb'
    have e2 := m_eaten1 hM hW hb'
    by_cases e : spEaten (spNights N B t) b = true
    · refine ⟨nI t, Q, S1, ?_, ?_, hM.1⟩
      · simp (disch := omega) only [fX4_when_L26, lt, jn, q_lit, q_bnd, q_cl, q_le, q_lt, q_eq, pk_mul, nI_add, q_sub, q_div, q_pos, q_neg, q_T, q_F, q_max0, q_flg1, q_flg0, q_min, q_min2, q_bit, q_some, q_up, e1, e, q_b0, Bool.true_eq_false]
      · simp (disch := omega) only [fX5_when_L16, lt, jn, q_lit, q_bnd, q_cl, q_le, q_lt, q_eq, pk_mul, nI_add, q_sub, q_div, q_pos, q_neg, q_T, q_F, q_max0, q_flg1, q_flg0, q_min, q_min2, q_bit, q_some, e2, e, q_b0, Bool.true_eq_false]
    · have e' : spEaten (spNights N B t) b = false := by simpa using e
      obtain ⟨Q1, i1, i2, i3⟩ := t_pass hS hW
      obtain ⟨S2, j1, j2, j3⟩ := m_nights (n := 1) (by omega) hM hW
      obtain ⟨a, Q', S', r1, r2, r3⟩ := k_when_L (X := X) hb d (t + 1) f g Q1 S2 (by omega) (by omega) (by omega) i2 i3 j2
      refine ⟨a, Q', S', ?_, ?_, r3⟩
      · simp (disch := omega) only [fX4_when_L26, lt, jn, q_lit, q_bnd, q_cl, q_le, q_lt, q_eq, pk_mul, nI_add, q_sub, q_div, q_pos, q_neg, q_T, q_F, q_max0, q_flg1, q_flg0, q_min, q_min2, q_bit, q_some, q_up, e1, e', q_b0, i1, up_up]
        exact r1
      · simp (disch := omega) only [fX5_when_L16, lt, jn, q_lit, q_bnd, q_cl, q_le, q_lt, q_eq, pk_mul, nI_add, q_sub, q_div, q_pos, q_neg, q_T, q_F, q_max0, q_flg1, q_flg0, q_min, q_min2, q_bit, q_some, e2, e', q_b0, j1]
        exact r2
theorem k_when {X : M3} {S : M2} (h : R X S) (x : Int32) : ∃ a X' S', fX4_when x X = some (a, X') ∧ fX5_when x S = some (a, S') ∧ R X' S' := by
  obtain ⟨N, B, hW, hn, hC, hM, e3, e4, hN, hK⟩ := h.data
  have w1 := hW.1
  have eb : fX5_isBolt x S = fX1_hasBolt x (X 2) := m_isBolt (e3.trans hC.1.1.symm) x
  rcases t_hasBolt hC.1.1 w1.1 x with ⟨b, hb, rfl, h1⟩ | ⟨-, h1⟩
  · rw [h1] at eb
    obtain ⟨Q0, c1, c2⟩ := t_copy (X 3) hC hW
    obtain ⟨S1, i1, i2, -⟩ := hN.starts
    obtain ⟨a, Q', S', r1, r2, r3⟩ := k_when_L (X := X) hb 41 0 400 400 Q0 S1 (by omega) (by omega) (by omega) c2 hW i2
    refine ⟨a, va_up X 3 Q', S', ?_, ?_, (h.xe xe3).me r3⟩
    · unfold fX4_when
      simp (disch := omega) only [lt, jn, q_lit, q_bnd, q_cl, q_le, q_lt, q_eq, pk_mul, nI_add, q_sub, q_div, q_pos, q_neg, q_T, q_F, q_max0, q_flg1, q_flg0, q_min, q_min2, q_bit, q_some, h1, c1]
      exact r1
    · unfold fX5_when
      simp (disch := omega) only [lt, jn, q_lit, q_bnd, q_cl, q_le, q_lt, q_eq, pk_mul, nI_add, q_sub, q_div, q_pos, q_neg, q_T, q_F, q_max0, q_flg1, q_flg0, q_min, q_min2, q_bit, q_some, eb, i1]
      exact r2
  · rw [h1] at eb
    refine ⟨-1, X, S, ?_, ?_, h⟩
    · simp (disch := omega) only [fX4_when, lt, jn, q_lit, q_bnd, q_cl, q_le, q_lt, q_eq, pk_mul, nI_add, q_sub, q_div, q_pos, q_neg, q_T, q_F, q_max0, q_flg1, q_flg0, q_min, q_min2, q_bit, q_some, h1]
    · simp (disch := omega) only [fX5_when, lt, jn, q_lit, q_bnd, q_cl, q_le, q_lt, q_eq, pk_mul, nI_add, q_sub, q_div, q_pos, q_neg, q_T, q_F, q_max0, q_flg1, q_flg0, q_min, q_min2, q_bit, q_some, eb]
theorem t_try {X : M3} {N : NN} {B : BB} {fl : Nat} (hf : fl < 32) (hC : CS N B (X 2)) (hW : WF N B) : ∃ Q, fX4_tryNight (nI fl) X = some (va_up X 3 Q) ∧ CS (spNight N B fl) B Q ∧ WF (spNight N B fl) B := by
  obtain ⟨Q0, c1, c2⟩ := t_copy (X 3) hC hW
  obtain ⟨Q, q1, q2, q3⟩ := t_loose hf c2 hW
  refine ⟨Q, ?_, q2, q3⟩
  unfold fX4_tryNight
  simp (disch := omega) only [lt, jn, q_lit, q_bnd, q_cl, q_le, q_lt, q_eq, pk_mul, nI_add, q_sub, q_div, q_pos, q_neg, q_T, q_F, q_max0, q_flg1, q_flg0, q_min, q_min2, q_bit, q_some, c1, q_up, q1, up_up]
theorem loose_one {N : NN} {B : BB} {m : Nat} : ∀ t : Nat, spLoose N B (2 ^ m) t = if m < t then spEat N m (B (N 11 m)) (spApp N m) (N 3) else N 3
  | 0 => rfl
  | t + 1 => by
    rw [spLoose, loose_one t, Nat.testBit_two_pow]
    by_cases e : m = t
    · subst e
      rw [decide_eq_true rfl, if_pos rfl, if_neg (Nat.lt_irrefl m), if_pos (Nat.lt_succ_self m)]
    · rw [decide_eq_false e, if_neg (by decide)]
      by_cases e2 : m < t
      · rw [if_pos e2, if_pos (by omega)]
      · rw [if_neg e2, if_neg (by omega)]
theorem k_eats {X : M3} {S : M2} (h : R X S) (x : Int32) : ∃ a X' S', fX4_eats x X = some (a, X') ∧ fX5_eats x S = some (a, S') ∧ R X' S' := by
  obtain ⟨N, B, hW, hn, hC, hM, e3, e4, hN, hK⟩ := h.data
  have w1 := hW.1
  have c7 := hC.1.2.2.1
  have eb : fX5_isMoth x S = fX1_hasMoth x (X 2) := m_isMoth (e4.trans c7.symm) x
  rcases t_hasMoth c7 (by omega) x with ⟨m, hm, rfl, h1⟩ | ⟨-, h1⟩
  · rw [h1] at eb
    have hp : 2 ^ m < 32 := by
      have : 2 ^ m < 2 ^ 5 := Nat.pow_lt_pow_right (by decide) (by omega)
      omega
    obtain ⟨Q, q1, q2, q3⟩ := t_try (X := X) hp hC hW
    obtain ⟨S1, i1, i2, -⟩ := hN.starts
    obtain ⟨S', mm, j1, j2, j3, j4⟩ := m_eatsNow (h := N 3) (by rw [up_id]; exact i2) (by rw [up_id]; exact hW) hm
    have es := t_sum q2 q3
    have es2 := t_sum hC hW
    have e5 : spNight N B (2 ^ m) 3 = spEat N m (B (N 11 m)) (spApp N m) (N 3) := by
      show spLoose N B (2 ^ m) (N 7 0) = _
      rw [loose_one, if_pos hm]
    have e6 : spNight N B (2 ^ m) 0 0 = N 0 0 := rfl
    rw [e5, e6] at es
    refine ⟨nI mm, va_up X 3 Q, S', ?_, ?_, (h.xe xe3).me (ME.ma j2)⟩
    · simp (disch := omega) only [fX4_eats, lt, jn, q_lit, q_bnd, q_cl, q_le, q_lt, q_eq, pk_mul, nI_add, q_sub, q_div, q_pos, q_neg, q_T, q_F, q_max0, q_flg1, q_flg0, q_min, q_min2, q_bit, q_some, h1, q_shl, q1, q_up, es, es2]
      rw [show spSum (spEat N m (B (N 11 m)) (spApp N m) (N 3)) (N 0 0) - spSum (N 3) (N 0 0) = mm by omega]
    · simp (disch := omega) only [fX5_eats, lt, jn, q_lit, q_bnd, q_cl, q_le, q_lt, q_eq, pk_mul, nI_add, q_sub, q_div, q_pos, q_neg, q_T, q_F, q_max0, q_flg1, q_flg0, q_min, q_min2, q_bit, q_some, eb, i1, j1]
  · rw [h1] at eb
    refine ⟨-1, X, S, ?_, ?_, h⟩
    · simp (disch := omega) only [fX4_eats, lt, jn, q_lit, q_bnd, q_cl, q_le, q_lt, q_eq, pk_mul, nI_add, q_sub, q_div, q_pos, q_neg, q_T, q_F, q_max0, q_flg1, q_flg0, q_min, q_min2, q_bit, q_some, h1]
    · simp (disch := omega) only [fX5_eats, lt, jn, q_lit, q_bnd, q_cl, q_le, q_lt, q_eq, pk_mul, nI_add, q_sub, q_div, q_pos, q_neg, q_T, q_F, q_max0, q_flg1, q_flg0, q_min, q_min2, q_bit, q_some, eb]
theorem k_duty {X : M3} {S : M2} (h : R X S) (w : Int32) : ∃ a X' S', fX4_duty w X = some (a, X') ∧ fX5_duty w S = some (a, S') ∧ R X' S' := by
  obtain ⟨N, B, hW, hn, hC, hM, e3, e4, hN, hK⟩ := h.data
  obtain ⟨S1, i1, i2, -⟩ := hN.starts
  rcases t_isPart w with ⟨j, j2, rfl, e6, e7⟩ | ⟨j1, e6, e7⟩
  · rcases (by omega : j = 0 ∨ j = 1) with rfl | rfl
    · refine ⟨nI (spAll N B), X, S1, ?_, ?_, h.me (ME.ma i2)⟩
      · simp (disch := omega) only [fX4_duty, lt, jn, q_lit, q_bnd, q_cl, q_le, q_lt, q_eq, pk_mul, nI_add, q_sub, q_div, q_pos, q_neg, q_T, q_F, q_max0, q_flg1, q_flg0, q_min, q_min2, q_bit, q_some, t_dutyAll hC hW]
      · simp (disch := omega) only [fX5_duty, lt, jn, q_lit, q_bnd, q_cl, q_le, q_lt, q_eq, pk_mul, nI_add, q_sub, q_div, q_pos, q_neg, q_T, q_F, q_max0, q_flg1, q_flg0, q_min, q_min2, q_bit, q_some, e6, i1, m_dutyAll i2 hW]
    · obtain ⟨Q, q1, q2, q3⟩ := t_try (X := X) (fl := 15) (by omega) hC hW
      obtain ⟨S2, j1, j3, j4⟩ := m_nights (n := 1) (by omega) i2 hW
      have es := t_sum q2 q3
      have es2 := m_sum j3 j4
      have c13 : Q 13 0 = nI (N 13 0) := q2.1.2.2.2.2.1
      have m47 : S2 1 47 = nI (N 13 0) := j3.2.2.2.1.2.1
      refine ⟨nI (spSum (spNight N B 15 3) (N 0 0) * N 13 0), va_up X 3 Q, S2, ?_, ?_, (h.xe xe3).me (ME.ma j3)⟩
      · simp (disch := omega) only [fX4_duty, lt, jn, q_lit, q_bnd, q_cl, q_le, q_lt, q_eq, pk_mul, nI_add, q_sub, q_div, q_pos, q_neg, q_T, q_F, q_max0, q_flg1, q_flg0, q_min, q_min2, q_bit, q_some, q1, q_up, es, c13]
        rfl
      · simp (disch := omega) only [fX5_duty, lt, jn, q_lit, q_bnd, q_cl, q_le, q_lt, q_eq, pk_mul, nI_add, q_sub, q_div, q_pos, q_neg, q_T, q_F, q_max0, q_flg1, q_flg0, q_min, q_min2, q_bit, q_some, e6, i1, j1, es2, m47]
        rfl
  · have x0 := j1 0 (by omega)
    have x1 := j1 1 (by omega)
    refine ⟨-1, X, S, ?_, ?_, h⟩
    · simp (disch := omega) only [fX4_duty, lt, jn, q_lit, q_bnd, q_cl, q_le, q_lt, q_eq, pk_mul, nI_add, q_sub, q_div, q_pos, q_neg, q_T, q_F, q_max0, q_flg1, q_flg0, q_min, q_min2, q_bit, q_some, x0, x1]
    · simp (disch := omega) only [fX5_duty, lt, jn, q_lit, q_bnd, q_cl, q_le, q_lt, q_eq, pk_mul, nI_add, q_sub, q_div, q_pos, q_neg, q_T, q_F, q_max0, q_flg1, q_flg0, q_min, q_min2, q_bit, q_some, e6]
theorem bitc : ∀ k, k < 4 → fJ6_bitCount_0f7a4 (nI k) = some (nI (k.testBit 0).toNat + nI (k.testBit 1).toNat) := by decide +kernel
theorem k_count {X : M3} {S : M2} (h : R X S) (w : Int32) : ∃ a S', fX4_count w X = some a ∧ fX5_count w S = some (a, S') ∧ R X S' := by
  obtain ⟨N, B, hW, hn, hC, hM, e3, e4, hN, kp, k1, k2, k3⟩ := h.data
  obtain ⟨-, ⟨⟨n, n1, n2, n3, n4⟩, -⟩, hS, -⟩ := id h
  obtain ⟨S1, i1, i2, -⟩ := hN.starts
  have hR := h.me (ME.ma i2)
  have f0 : S1 0 = S 0 := i2.1 0 (by decide)
  have f2 : S1 2 = S 2 := i2.1 2 (by decide)
  have f12 : S1 12 = S 12 := i2.1 12 (by decide)
  have f20 : S1 20 = S 20 := i2.1 20 (by decide)
  have f21 : S1 21 = S 21 := i2.1 21 (by decide)
  rcases q_within w (a := 0) (b := 4) (by omega) with ⟨j, -, j2, rfl⟩ | ⟨j1, -⟩
  · rcases (by omega : j = 0 ∨ j = 1 ∨ j = 2 ∨ j = 3 ∨ j = 4) with rfl | rfl | rfl | rfl | rfl
    · refine ⟨nI (spSum (N 3) (N 0 0)), S1, ?_, ?_, hR⟩
      · simp (disch := omega) only [fX4_count, lt, jn, q_lit, q_bnd, q_cl, q_le, q_lt, q_eq, pk_mul, nI_add, q_sub, q_div, q_pos, q_neg, q_T, q_F, q_max0, q_flg1, q_flg0, q_min, q_min2, q_bit, q_some, t_sum hC hW]
      · simp (disch := omega) only [fX5_count, lt, jn, q_lit, q_bnd, q_cl, q_le, q_lt, q_eq, pk_mul, nI_add, q_sub, q_div, q_pos, q_neg, q_T, q_F, q_max0, q_flg1, q_flg0, q_min, q_min2, q_bit, q_some, i1, m_sum i2 hW]
    · refine ⟨nI (N 15 0), S1, ?_, ?_, hR⟩
      · simp (disch := omega) only [fX4_count, lt, jn, q_lit, q_bnd, q_cl, q_le, q_lt, q_eq, pk_mul, nI_add, q_sub, q_div, q_pos, q_neg, q_T, q_F, q_max0, q_flg1, q_flg0, q_min, q_min2, q_bit, q_some, hC.1.2.2.2.2.2.2]
      · simp (disch := omega) only [fX5_count, lt, jn, q_lit, q_bnd, q_cl, q_le, q_lt, q_eq, pk_mul, nI_add, q_sub, q_div, q_pos, q_neg, q_T, q_F, q_max0, q_flg1, q_flg0, q_min, q_min2, q_bit, q_some, i1, f0, hM.1.2.2.2]
    · refine ⟨nI (kp.testBit 0).toNat + nI (kp.testBit 1).toNat, S1, ?_, ?_, hR⟩
      · simp (disch := omega) only [fX4_count, q_lit, q_eq, q_pos, q_neg, q_T, q_some, k2, bitc kp k1]
      · have s0 := (k3 0 (by omega)).1
        have s1 := (k3 1 (by omega)).1
        simp (disch := omega) only [fX5_count, lt, q_lit, q_eq, q_pos, q_neg, q_T, q_some, q_bnd, q_cl, i1, f2, s0, s1, q_flag]
    · refine ⟨nI n, S1, ?_, ?_, hR⟩
      · simp (disch := omega) only [fX4_count, lt, jn, q_lit, q_bnd, q_cl, q_le, q_lt, q_eq, pk_mul, nI_add, q_sub, q_div, q_pos, q_neg, q_T, q_F, q_max0, q_flg1, q_flg0, q_min, q_min2, q_bit, q_some, n2]
      · simp (disch := omega) only [fX5_count, lt, jn, q_lit, q_bnd, q_cl, q_le, q_lt, q_eq, pk_mul, nI_add, q_sub, q_div, q_pos, q_neg, q_T, q_F, q_max0, q_flg1, q_flg0, q_min, q_min2, q_bit, q_some, i1, f12, n3]
    · rcases hS 0 (by omega) with ⟨s1, s2⟩ | ⟨s1, l, c, s2, s3, s4, s5, s6, s7, s8⟩
      · have s1' : X 6 0 0 = nI 0 := s1
        refine ⟨-4, S1, ?_, ?_, hR⟩
        · simp (disch := omega) only [fX4_count, lt, jn, q_lit, q_bnd, q_cl, q_le, q_lt, q_eq, pk_mul, nI_add, q_sub, q_div, q_pos, q_neg, q_T, q_F, q_max0, q_flg1, q_flg0, q_min, q_min2, q_bit, q_some, Nat.add_zero, s1']
        · have s2' : S1 20 0 = -nI 4 := by rw [f20]; exact s2
          simp (disch := omega) only [fX5_count, lt, jn, q_lit, q_bnd, q_cl, q_le, q_lt, q_eq, pk_mul, nI_add, q_sub, q_div, q_pos, q_neg, q_T, q_F, q_max0, q_flg1, q_flg0, q_min, q_min2, q_bit, q_some, i1, s2', q_T]
      · have s1' : X 6 0 0 = nI 1 := s1
        have s6' : X 6 2 0 = nI c := s6
        have hne : ¬ nI l = -nI 4 := by rcases wb_cases s2 with rfl | rfl | rfl <;> decide
        refine ⟨nI c, S1, ?_, ?_, hR⟩
        · simp (disch := omega) only [fX4_count, lt, jn, q_lit, q_bnd, q_cl, q_le, q_lt, q_eq, pk_mul, nI_add, q_sub, q_div, q_pos, q_neg, q_T, q_F, q_max0, q_flg1, q_flg0, q_min, q_min2, q_bit, q_some, Nat.add_zero, s1', s6']
        · simp (disch := omega) only [fX5_count, lt, jn, q_lit, q_bnd, q_cl, q_le, q_lt, q_eq, pk_mul, nI_add, q_sub, q_div, q_pos, q_neg, q_T, q_F, q_max0, q_flg1, q_flg0, q_min, q_min2, q_bit, q_some, i1, f20, s5, hne, q_F, f21, s7]
  · have x0 := j1 0 (by omega) (by omega)
    have x1 := j1 1 (by omega) (by omega)
    have x2 := j1 2 (by omega) (by omega)
    have x3 := j1 3 (by omega) (by omega)
    have x4 := j1 4 (by omega) (by omega)
    refine ⟨-1, S1, ?_, ?_, hR⟩
    · simp (disch := omega) only [fX4_count, lt, jn, q_lit, q_bnd, q_cl, q_le, q_lt, q_eq, pk_mul, nI_add, q_sub, q_div, q_pos, q_neg, q_T, q_F, q_max0, q_flg1, q_flg0, q_min, q_min2, q_bit, q_some, x0, x1, x2, x3, x4]
    · simp (disch := omega) only [fX5_count, lt, jn, q_lit, q_bnd, q_cl, q_le, q_lt, q_eq, pk_mul, nI_add, q_sub, q_div, q_pos, q_neg, q_T, q_F, q_max0, q_flg1, q_flg0, q_min, q_min2, q_bit, q_some, i1, x0, x1, x2, x3, x4]
end
section
/-- what the least-by loops hold: the least so far, and the bolt -/
theorem spAll_le {N : NN} {B : BB} (hW : WF N B) : spAll N B ≤ 405 := by
  have hd : ∀ (l : List Nat) (a : Nat), (∀ b, b ∈ l → N 3 b ≤ 9) → spDuty (N 3) a l ≤ 9 * l.length := by
    intro l
    induction l with
    | nil => intro a _; exact Nat.le_refl _
    | cons b l ih =>
      intro a h
      have h1 := h b List.mem_cons_self
      have h2 := ih (N 3 b) fun c hc => h c (List.mem_cons_of_mem _ hc)
      rw [spDuty, List.length_cons]
      omega
  have hb : ∀ k, k < 3 → ∀ b, b ∈ B k → N 3 b ≤ 9 := fun k hk b hb => by
    have := hW.2.1 b (hW.2.2.2.2.lt hk hb)
    omega
  have h0 := hd (B 0) 0 (hb 0 (by omega))
  have h1 := hd (B 1) 0 (hb 1 (by omega))
  have h2 := hd (B 2) 0 (hb 2 (by omega))
  have hl := hW.2.2.2.2.len
  have w1 := hW.1
  unfold spAll
  rw [← Nat.add_mul, ← Nat.add_mul]
  have h4 : spDuty (N 3) 0 (B 0) + spDuty (N 3) 0 (B 1) + spDuty (N 3) 0 (B 2) ≤ 45 := by omega
  calc _ ≤ 45 * 9 := Nat.mul_le_mul h4 w1.2.2.2.2.2.1
    _ = 405 := rfl
/-- a bolt that is to change, by the kind of the call: p camphor, else folded on top of its own bale -/
theorem guard_L {X : M3} {S : M2} {N : NN} {B : BB} (hC : CS N B (X 2)) (hW : WF N B) (h3 : S 3 0 = nI (N 0 0)) (h4 : S 4 0 = nI (N 7 0)) (hM : MS N B (S 0)) (w : Int32) : ∀ (d b f g : Nat) (least : Nat) (found : Int32) (Q S1 : M2), b + d = N 0 0 → d < f → d < g → least ≤ 405 → (∀ c, c < b → (N 4 0).testBit c = true → True) → least ≤ spAll (spNight N B 15) B → ME S S1 → ∃ (least' : Nat) (found' : Int32) (Q' S' : M2), (∀ kk : (Int32 × Int32 × M3) → Option (Int32 × M3), fX4_leastBy_L32 (nI 1) w kk f found (nI least) (nI b) (va_up X 3 Q) = kk (found', nI least', va_up X 3 Q')) ∧ (∀ kk : (Int32 × Int32 × M2) → Option (Int32 × M2), fX5_guard_L24 w kk g (nI least) found (nI b) S1 = kk (nI least', found', S')) ∧ ME S S'
  | 0, b, f + 1, g + 1, least, found, Q, S1, hb, hf, hg, hl, _, hle, hE => by
    have w1 := hW.1
    have e : b = N 0 0 := by omega
    subst e
    have h3' : S1 3 0 = nI (N 0 0) := by rw [hE 3 (by decide)]; exact h3
    refine ⟨least, found, Q, S1, fun kk => ?_, fun kk => ?_, hE⟩
    · simp (disch := omega) only [fX4_leastBy_L32, lt, jn, q_lit, q_bnd, q_cl, q_le, q_lt, q_eq, pk_mul, nI_add, q_sub, q_div, q_pos, q_neg, q_T, q_F, q_max0, q_flg1, q_flg0, q_min, q_min2, q_bit, q_some, q_up, hC.1.1]
    · simp (disch := omega) only [fX5_guard_L24, lt, jn, q_lit, q_bnd, q_cl, q_le, q_lt, q_eq, pk_mul, nI_add, q_sub, q_div, q_pos, q_neg, q_T, q_F, q_max0, q_flg1, q_flg0, q_min, q_min2, q_bit, q_some, h3']
  | d + 1, b, f + 1, g + 1, least, found, Q, S1, hb, hf, hg, hl, _, hle, hE => by
    have w1 := hW.1
    have hbn : b < N 0 0 := by omega
    have w4 : N 4 0 < 2 ^ 5 := Nat.lt_of_lt_of_le w1.2.2.1 (Nat.pow_le_pow_right (by decide) w1.1)
    have h3' : S1 3 0 = nI (N 0 0) := by rw [hE 3 (by decide)]; exact h3
    obtain ⟨Q0, c1, c2⟩ := t_copy Q hC hW
    have c4 : Q0 4 0 = nI (N 4 0) := c2.1.2.1
    have h2b : 2 ^ b < 2 ^ N 0 0 := Nat.pow_lt_pow_right (by decide) hbn
    have o3 : nI (N 4 0) ||| nI (2 ^ b) = nI (N 4 0 ||| 2 ^ b) := q_or _ _
    have hW2 := hW.cam (c := N 4 0 ||| 2 ^ b) (Nat.or_lt_two_pow w1.2.2.1 h2b)
    obtain ⟨Q1, q1, q2, q3⟩ := t_loose (fl := 15) (by omega) (c2.cam (N 4 0 ||| 2 ^ b)) hW2
    have qd := t_dutyAll q2 q3
    have ql := spAll_le q3
    obtain ⟨S2, i1, i2⟩ := m_starts hE h3 h4 hM hW
    have m3 := (i2.2.2.2.2.1 b hbn).2.2.2
    by_cases eb : (N 4 0).testBit b = true
    · have eor : N 4 0 ||| 2 ^ b = N 4 0 := by
        apply Nat.eq_of_testBit_eq
        intro i
        rw [Nat.testBit_or, Nat.testBit_two_pow]
        by_cases e : b = i
        · subst e
          simp [eb]
        · simp [e]
      have eN : va_up N 4 (fun _ => N 4 0 ||| 2 ^ b) = va_up N 4 (fun _ => N 4 0) := by rw [eor]
      have eD : spAll (spNight (va_up N 4 (fun _ => N 4 0 ||| 2 ^ b)) B 15) B = spAll (spNight N B 15) B := by
        rw [eN]
        have e4 : ∀ (m : Nat) (l : List Nat) (a : Nat) (h : Nat → Nat), spEat (va_up N 4 (fun _ => N 4 0)) m l a h = spEat N m l a h := by
          intro m l
          induction l with
          | nil => intro a h; rfl
          | cons c l ih =>
            intro a h
            rw [spEat, spEat, ih, ih]
            rfl
        have e5 : ∀ t, spLoose (va_up N 4 (fun _ => N 4 0)) B 15 t = spLoose N B 15 t := by
          intro t
          induction t with
          | zero => rfl
          | succ t ih =>
            rw [spLoose, spLoose, ih, e4]
            rfl
        show spDuty (spLoose (va_up N 4 (fun _ => N 4 0)) B 15 (N 7 0)) 0 (B 0) * N 13 0 + spDuty (spLoose (va_up N 4 (fun _ => N 4 0)) B 15 (N 7 0)) 0 (B 1) * N 13 0 + spDuty (spLoose (va_up N 4 (fun _ => N 4 0)) B 15 (N 7 0)) 0 (B 2) * N 13 0 = _
        rw [e5]
        rfl
      rw [eD] at qd ql
      obtain ⟨least', found', Q', S', r1, r2, r3⟩ := guard_L hC hW h3 h4 hM w d (b + 1) f g least found Q1 S2 (by omega) (by omega) (by omega) hl (fun _ _ _ => trivial) hle (ME.ma i2)
      refine ⟨least', found', Q', S', fun kk => ?_, fun kk => ?_, r3⟩
      · simp (disch := omega) only [fX4_leastBy_L32, lt, jn, q_lit, q_bnd, q_cl, q_le, q_lt, q_eq, pk_mul, nI_add, q_sub, q_div, q_pos, q_neg, q_T, q_F, q_max0, q_flg1, q_flg0, q_min, q_min2, q_bit, q_some, q_up, hC.1.1, c1, up_up, c4, q_shl, o3, q1, qd, r1]
      · simp (disch := omega) only [fX5_guard_L24, fX5_of, lt, jn, q_lit, q_bnd, q_cl, q_le, q_lt, q_eq, pk_mul, nI_add, q_sub, q_div, q_pos, q_neg, q_T, q_F, q_max0, q_flg1, q_flg0, q_min, q_min2, q_bit, q_some, h3', i1, m3, eb, q_b0, Bool.true_eq_false, r2]
    · have eb' : (N 4 0).testBit b = false := by simpa using eb
      have i3 : MA (va_up N 4 (fun _ => N 4 0 ||| 2 ^ b)) B S (va_up S2 1 (upd (S2 1) (6 * b + 3) (nI 1))) := ⟨fun k hk => by rw [q_up, if_neg hk]; exact i2.1 k hk, i2.2.1, i2.2.2.1, by
        rw [q_up, if_pos rfl]
        exact i2.2.2.2.cam hW hbn (p := true) (by rw [Nat.testBit_or, Nat.testBit_two_pow_self, Bool.or_true]) (fun j hj hne => by rw [Nat.testBit_or, Nat.testBit_two_pow_of_ne (Ne.symm hne), Bool.or_false])⟩
      obtain ⟨S3, j1, j2, j3⟩ := m_next i3 hW2
      by_cases el : least ≤ spAll (spNight (va_up N 4 (fun _ => N 4 0 ||| 2 ^ b)) B 15) B
      · obtain ⟨least', found', Q', S', r1, r2, r3⟩ := guard_L hC hW h3 h4 hM w d (b + 1) f g least found Q1 S3 (by omega) (by omega) (by omega) hl (fun _ _ _ => trivial) hle (ME.ma j2)
        refine ⟨least', found', Q', S', fun kk => ?_, fun kk => ?_, r3⟩
        · simp (disch := omega) only [fX4_leastBy_L32, lt, jn, q_lit, q_bnd, q_cl, q_le, q_lt, q_eq, pk_mul, nI_add, q_sub, q_div, q_pos, q_neg, q_T, q_F, q_max0, q_flg1, q_flg0, q_min, q_min2, q_bit, q_some, q_up, hC.1.1, c1, up_up, c4, q_shl, o3, q1, qd, r1]
        · simp (disch := omega) only [fX5_guard_L24, fX5_of, fX5_becomesOf, lt, jn, q_lit, q_bnd, q_cl, q_le, q_lt, q_eq, pk_mul, nI_add, q_sub, q_div, q_pos, q_neg, q_T, q_F, q_max0, q_flg1, q_flg0, q_min, q_min2, q_bit, q_some, h3', i1, m3, eb', q_b0, j1, r2]
      · obtain ⟨least', found', Q', S', r1, r2, r3⟩ := guard_L hC hW h3 h4 hM w d (b + 1) f g (spAll (spNight (va_up N 4 (fun _ => N 4 0 ||| 2 ^ b)) B 15) B) (nI b) Q1 S3 (by omega) (by omega) (by omega) ql (fun _ _ _ => trivial) (by omega) (ME.ma j2)
        refine ⟨least', found', Q', S', fun kk => ?_, fun kk => ?_, r3⟩
        · simp (disch := omega) only [fX4_leastBy_L32, lt, jn, q_lit, q_bnd, q_cl, q_le, q_lt, q_eq, pk_mul, nI_add, q_sub, q_div, q_pos, q_neg, q_T, q_F, q_max0, q_flg1, q_flg0, q_min, q_min2, q_bit, q_some, q_up, hC.1.1, c1, up_up, c4, q_shl, o3, q1, qd, r1]
        · simp (disch := omega) only [fX5_guard_L24, fX5_of, fX5_becomesOf, lt, jn, q_lit, q_bnd, q_cl, q_le, q_lt, q_eq, pk_mul, nI_add, q_sub, q_div, q_pos, q_neg, q_T, q_F, q_max0, q_flg1, q_flg0, q_min, q_min2, q_bit, q_some, h3', i1, m3, eb', q_b0, j1, r2]
theorem k_guard {X : M3} {S : M2} (h : R X S) (w : Int32) : ∃ a X' S', fX4_guard w X = some (a, X') ∧ fX5_guard w S = some (a, S') ∧ R X' S' := by
  obtain ⟨N, B, hW, hn, hC, hM, e3, e4, hN, hK⟩ := h.data
  have w1 := hW.1
  rcases t_isPart w with ⟨j, j2, rfl, e6, e7⟩ | ⟨j1, e6, e7⟩
  · obtain ⟨S1, i1, i2, -⟩ := hN.starts
    obtain ⟨S2, i3, i4, i5⟩ := m_next i2 hW
    obtain ⟨Q, q1, q2, q3⟩ := t_try (X := X) (fl := 15) (by omega) hC hW
    have qd := t_dutyAll q2 q3
    obtain ⟨least', found', Q', S', r1, r2, r3⟩ := guard_L hC hW e3 e4 hM (nI j) (N 0 0) 0 400 400 (spAll (spNight N B 15) B) (-nI 4) Q S2 (by omega) (by omega) (by omega) (spAll_le q3) (fun _ _ _ => trivial) (Nat.le_refl _) (ME.ma i4)
    refine ⟨if j = 0 then found' else if found' = -nI 4 then found' else nI least', va_up X 3 Q', S', ?_, ?_, (h.xe xe3).me r3⟩
    · unfold fX4_guard fX4_leastBy
      simp (disch := omega) only [lt, q_lit, q_some, e7, q_eq, q_neg, q1, q_up, q_T, qd, r1]
      by_cases a1 : j = 0
      · simp (disch := omega) only [a1, q_T, q_some]
      · simp (disch := omega) only [a1, q_F, q_some]
        by_cases a2 : found' = -nI 4
        · simp (disch := omega) only [a2, q_T, q_some]
        · simp (disch := omega) only [a2, q_F, q_some]
    · unfold fX5_guard
      simp (disch := omega) only [lt, q_lit, q_some, e6, q_eq, q_neg, i1, i3, r2]
      by_cases a2 : found' = -nI 4
      · by_cases a1 : j = 0
        · simp (disch := omega) only [a1, a2, q_T]
        · simp (disch := omega) only [a1, a2, q_T, q_F]
      · by_cases a1 : j = 0
        · simp (disch := omega) only [a1, a2, q_T, q_F]
        · simp (disch := omega) only [a1, a2, q_F]
  · refine ⟨-1, X, S, ?_, ?_, h⟩
    · simp (disch := omega) only [fX4_guard, fX4_leastBy, lt, jn, q_lit, q_bnd, q_cl, q_le, q_lt, q_eq, pk_mul, nI_add, q_sub, q_div, q_pos, q_neg, q_T, q_F, q_max0, q_flg1, q_flg0, q_min, q_min2, q_bit, q_some, e7]
    · simp (disch := omega) only [fX5_guard, lt, jn, q_lit, q_bnd, q_cl, q_le, q_lt, q_eq, pk_mul, nI_add, q_sub, q_div, q_pos, q_neg, q_T, q_F, q_max0, q_flg1, q_flg0, q_min, q_min2, q_bit, q_some, e6]
end
section
theorem raise_L {X : M3} {S : M2} {N : NN} {B : BB} (hC : CS N B (X 2)) (hW : WF N B) (h3 : S 3 0 = nI (N 0 0)) (h4 : S 4 0 = nI (N 7 0)) (hM : MS N B (S 0)) (w : Int32) : ∀ (d b f g : Nat) (least : Nat) (found : Int32) (Q S1 : M2), b + d = N 0 0 → d < f → d < g → least ≤ 405 → ME S S1 → ∃ (least' : Nat) (found' : Int32) (Q' S' : M2), (∀ kk : (Int32 × Int32 × M3) → Option (Int32 × M3), fX4_leastBy_L32 (nI 0) w kk f found (nI least) (nI b) (va_up X 3 Q) = kk (found', nI least', va_up X 3 Q')) ∧ (∀ kk : (Int32 × Int32 × M2) → Option (Int32 × M2), fX5_raise_L24 w kk g (nI least) found (nI b) S1 = kk (nI least', found', S')) ∧ ME S S'
  | 0, b, f + 1, g + 1, least, found, Q, S1, hb, hf, hg, hl, hE => by
    have w1 := hW.1
    have e : b = N 0 0 := by omega
    subst e
    have h3' : S1 3 0 = nI (N 0 0) := by rw [hE 3 (by decide)]; exact h3
    refine ⟨least, found, Q, S1, fun kk => ?_, fun kk => ?_, hE⟩
    · simp (disch := omega) only [fX4_leastBy_L32, lt, jn, q_lit, q_bnd, q_cl, q_le, q_lt, q_eq, pk_mul, nI_add, q_sub, q_div, q_pos, q_neg, q_T, q_F, q_max0, q_flg1, q_flg0, q_min, q_min2, q_bit, q_some, q_up, hC.1.1]
    · simp (disch := omega) only [fX5_raise_L24, lt, jn, q_lit, q_bnd, q_cl, q_le, q_lt, q_eq, pk_mul, nI_add, q_sub, q_div, q_pos, q_neg, q_T, q_F, q_max0, q_flg1, q_flg0, q_min, q_min2, q_bit, q_some, h3']
  | d + 1, b, f + 1, g + 1, least, found, Q, S1, hb, hf, hg, hl, hE => by
    have w1 := hW.1
    have hbn : b < N 0 0 := by omega
    have h3' : S1 3 0 = nI (N 0 0) := by rw [hE 3 (by decide)]; exact h3
    obtain ⟨k, i, hk, hi⟩ := hW.2.2.2.2.ex hbn
    obtain ⟨Q0, c1, c2⟩ := t_copy Q hC hW
    have eb := t_baleOf c2 hW hk hi
    obtain ⟨Q1, p1, p2, p3⟩ := t_putOnTop c2 hW hk hk hi
    obtain ⟨Q2, q1, q2, q3⟩ := t_loose (fl := 15) (by omega) p2 p3
    have qd := t_dutyAll q2 q3
    have ql := spAll_le q3
    obtain ⟨S2, i1, i2⟩ := m_starts hE h3 h4 hM hW
    have m4 := (i2.2.2.2.2.2.2.2 k hk i b hi).1
    obtain ⟨S3, j1, j2⟩ := m_folds i2 hW hk hk hi true
    have j1' : fX5_folds (nI b) (nI k) (nI 1) S2 = some S3 := j1
    rw [if_pos rfl] at j2
    obtain ⟨S4, l1, l2, l3⟩ := m_next j2 p3
    by_cases el : least ≤ spAll (spNight N (spTop (spTake B k i) k b) 15) (spTop (spTake B k i) k b)
    · obtain ⟨least', found', Q', S', r1, r2, r3⟩ := raise_L hC hW h3 h4 hM w d (b + 1) f g least found Q2 S4 (by omega) (by omega) (by omega) hl (ME.ma l2)
      refine ⟨least', found', Q', S', fun kk => ?_, fun kk => ?_, r3⟩
      · simp (disch := omega) only [fX4_leastBy_L32, lt, jn, q_lit, q_bnd, q_cl, q_le, q_lt, q_eq, pk_mul, nI_add, q_sub, q_div, q_pos, q_neg, q_T, q_F, q_max0, q_flg1, q_flg0, q_min, q_min2, q_bit, q_some, q_up, hC.1.1, c1, up_up, eb, p1, q1, qd, r1]
      · simp (disch := omega) only [fX5_raise_L24, fX5_of, lt, jn, q_lit, q_bnd, q_cl, q_le, q_lt, q_eq, pk_mul, nI_add, q_sub, q_div, q_pos, q_neg, q_T, q_F, q_max0, q_flg1, q_flg0, q_min, q_min2, q_bit, q_some, h3', i1, m4, j1', l1, r2]
    · obtain ⟨least', found', Q', S', r1, r2, r3⟩ := raise_L hC hW h3 h4 hM w d (b + 1) f g (spAll (spNight N (spTop (spTake B k i) k b) 15) (spTop (spTake B k i) k b)) (nI b) Q2 S4 (by omega) (by omega) (by omega) ql (ME.ma l2)
      refine ⟨least', found', Q', S', fun kk => ?_, fun kk => ?_, r3⟩
      · simp (disch := omega) only [fX4_leastBy_L32, lt, jn, q_lit, q_bnd, q_cl, q_le, q_lt, q_eq, pk_mul, nI_add, q_sub, q_div, q_pos, q_neg, q_T, q_F, q_max0, q_flg1, q_flg0, q_min, q_min2, q_bit, q_some, q_up, hC.1.1, c1, up_up, eb, p1, q1, qd, r1]
      · simp (disch := omega) only [fX5_raise_L24, fX5_of, lt, jn, q_lit, q_bnd, q_cl, q_le, q_lt, q_eq, pk_mul, nI_add, q_sub, q_div, q_pos, q_neg, q_T, q_F, q_max0, q_flg1, q_flg0, q_min, q_min2, q_bit, q_some, h3', i1, m4, j1', l1, r2]
theorem k_raise {X : M3} {S : M2} (h : R X S) (w : Int32) : ∃ a X' S', fX4_raise w X = some (a, X') ∧ fX5_raise w S = some (a, S') ∧ R X' S' := by
  obtain ⟨N, B, hW, hn, hC, hM, e3, e4, hN, hK⟩ := h.data
  have w1 := hW.1
  rcases t_isPart w with ⟨j, j2, rfl, e6, e7⟩ | ⟨j1, e6, e7⟩
  · obtain ⟨S1, i1, i2, -⟩ := hN.starts
    obtain ⟨S2, i3, i4, i5⟩ := m_next i2 hW
    obtain ⟨Q, q1, q2, q3⟩ := t_try (X := X) (fl := 15) (by omega) hC hW
    have qd := t_dutyAll q2 q3
    obtain ⟨least', found', Q', S', r1, r2, r3⟩ := raise_L hC hW e3 e4 hM (nI j) (N 0 0) 0 400 400 (spAll (spNight N B 15) B) (-nI 4) Q S2 (by omega) (by omega) (by omega) (spAll_le q3) (ME.ma i4)
    refine ⟨if j = 0 then found' else if found' = -nI 4 then found' else nI least', va_up X 3 Q', S', ?_, ?_, (h.xe xe3).me r3⟩
    · unfold fX4_raise fX4_leastBy
      simp (disch := omega) only [lt, q_lit, q_some, e7, q_eq, q_neg, q1, q_up, q_T, qd, r1]
      by_cases a1 : j = 0
      · simp (disch := omega) only [a1, q_T, q_some]
      · simp (disch := omega) only [a1, q_F, q_some]
        by_cases a2 : found' = -nI 4
        · simp (disch := omega) only [a2, q_T, q_some]
        · simp (disch := omega) only [a2, q_F, q_some]
    · unfold fX5_raise
      simp (disch := omega) only [lt, q_lit, q_some, e6, q_eq, q_neg, i1, i3, r2]
      by_cases a2 : found' = -nI 4
      · by_cases a1 : j = 0
        · simp (disch := omega) only [a1, a2, q_T]
        · simp (disch := omega) only [a1, a2, q_T, q_F]
      · by_cases a1 : j = 0
        · simp (disch := omega) only [a1, a2, q_T, q_F]
        · simp (disch := omega) only [a1, a2, q_F]
  · refine ⟨-1, X, S, ?_, ?_, h⟩
    · unfold fX4_raise fX4_leastBy
      rw [show fX4_within w (0 : Int32) (1 : Int32) = some (nI 0) from e7, q_some]
      rfl
    · unfold fX5_raise
      rw [e6, q_some]
      rfl
theorem send_L {X : M3} {S : M2} {N : NN} {B : BB} (hC : CS N B (X 2)) (hW : WF N B) (h3 : S 3 0 = nI (N 0 0)) (h4 : S 4 0 = nI (N 7 0)) (hM : MS N B (S 0)) {m : Nat} (hm : m < N 7 0) (w : Int32) : ∀ (d k f g : Nat) (bale most : Int32) (X1 : M3) (S1 : M2), k + d = 3 → d < f → d < g → (∀ q, q ≠ 3 → X1 q = X q) → ME S S1 → ∃ (bale' most' : Int32) (X' : M3) (S' : M2), (∀ kk : (Int32 × Int32 × M3) → Option (Int32 × M3), fX4_send_L30 (nI m) w kk f bale most (nI k) X1 = kk (bale', most', X')) ∧ (∀ kk : (Int32 × Int32 × M2) → Option (Int32 × M2), fX5_send_L25 (nI m) w kk g most bale (nI k) S1 = kk (most', bale', S')) ∧ (∀ q, q ≠ 3 → X' q = X q) ∧ ME S S'
  | 0, k, f + 1, g + 1, bale, most, X1, S1, hb, hf, hg, hX, hE => by
    have e : k = 3 := by omega
    subst e
    refine ⟨bale, most, X1, S1, fun kk => ?_, fun kk => ?_, hX, hE⟩
    · simp (disch := omega) only [fX4_send_L30, lt, jn, q_lit, q_bnd, q_cl, q_le, q_lt, q_eq, pk_mul, nI_add, q_sub, q_div, q_pos, q_neg, q_T, q_F, q_max0, q_flg1, q_flg0, q_min, q_min2, q_bit, q_some]
    · simp (disch := omega) only [fX5_send_L25, lt, jn, q_lit, q_bnd, q_cl, q_le, q_lt, q_eq, pk_mul, nI_add, q_sub, q_div, q_pos, q_neg, q_T, q_F, q_max0, q_flg1, q_flg0, q_min, q_min2, q_bit, q_some]
  | d + 1, k, f + 1, g + 1, bale, most, X1, S1, hb, hf, hg, hX, hE => by
    have w1 := hW.1
    have x2 := hX 2 (by decide)
    obtain ⟨Q0, c1, c2⟩ := t_copy (X1 3) hC hW
    have hW2 := hW.tr3 (m := m) (v := k) (by omega)
    obtain ⟨Q2, q1, q2, q3⟩ := t_loose (fl := 15) (by omega) (c2.tr3 m k) hW2
    have qd := t_dutyAll q2 q3
    obtain ⟨S2, i1, i2⟩ := m_starts hE h3 h4 hM hW
    have i3 : MA (va_up N 11 (va_up (N 11) m k)) B S (va_up S2 1 (upd (S2 1) (30 + 4 * m + 3) (nI k))) := ⟨fun q hq => by rw [q_up, if_neg hq]; exact i2.1 q hq, i2.2.1, i2.2.2.1, by
      rw [q_up, if_pos rfl]
      exact i2.2.2.2.tr3 hW hm⟩
    obtain ⟨S4, l1, l2, l3⟩ := m_next i3 hW2
    by_cases el : nI (spAll (spNight (va_up N 11 (va_up (N 11) m k)) B 15) B) ≤ most
    · obtain ⟨bale', most', X', S', r1, r2, r3⟩ := send_L hC hW h3 h4 hM hm w d (k + 1) f g bale most (va_up X1 3 Q2) S4 (by omega) (by omega) (by omega) (fun q hq => by rw [q_up, if_neg hq]; exact hX q hq) (ME.ma l2)
      refine ⟨bale', most', X', S', fun kk => ?_, fun kk => ?_, r3⟩
      · simp (disch := omega) only [fX4_send_L30, lt, jn, q_lit, q_bnd, q_cl, q_le, q_lt, q_eq, pk_mul, nI_add, q_sub, q_div, q_pos, q_neg, q_T, q_F, q_max0, q_flg1, q_flg0, q_min, q_min2, q_bit, q_some, x2, c1, q_up, up_up, q1, qd, el, r1]
      · simp (disch := omega) only [fX5_send_L25, lt, jn, q_lit, q_bnd, q_cl, q_le, q_lt, q_eq, pk_mul, nI_add, q_sub, q_div, q_pos, q_neg, q_T, q_F, q_max0, q_flg1, q_flg0, q_min, q_min2, q_bit, q_some, i1, l1, el, r2]
    · obtain ⟨bale', most', X', S', r1, r2, r3⟩ := send_L hC hW h3 h4 hM hm w d (k + 1) f g (nI k) (nI (spAll (spNight (va_up N 11 (va_up (N 11) m k)) B 15) B)) (va_up X1 3 Q2) S4 (by omega) (by omega) (by omega) (fun q hq => by rw [q_up, if_neg hq]; exact hX q hq) (ME.ma l2)
      refine ⟨bale', most', X', S', fun kk => ?_, fun kk => ?_, r3⟩
      · simp (disch := omega) only [fX4_send_L30, lt, jn, q_lit, q_bnd, q_cl, q_le, q_lt, q_eq, pk_mul, nI_add, q_sub, q_div, q_pos, q_neg, q_T, q_F, q_max0, q_flg1, q_flg0, q_min, q_min2, q_bit, q_some, x2, c1, q_up, up_up, q1, qd, el, r1]
      · simp (disch := omega) only [fX5_send_L25, lt, jn, q_lit, q_bnd, q_cl, q_le, q_lt, q_eq, pk_mul, nI_add, q_sub, q_div, q_pos, q_neg, q_T, q_F, q_max0, q_flg1, q_flg0, q_min, q_min2, q_bit, q_some, i1, l1, el, r2]
theorem k_send {X : M3} {S : M2} (h : R X S) (x w : Int32) : ∃ a X' S', fX4_send x w X = some (a, X') ∧ fX5_send x w S = some (a, S') ∧ R X' S' := by
  obtain ⟨N, B, hW, hn, hC, hM, e3, e4, hN, hK⟩ := h.data
  have w1 := hW.1
  have c7 := hC.1.2.2.1
  have eb : fX5_isMoth x S = fX1_hasMoth x (X 2) := m_isMoth (e4.trans c7.symm) x
  rcases t_hasMoth c7 (by omega) x with ⟨m, hm, rfl, h1⟩ | ⟨-, h1⟩
  · rw [h1] at eb
    rcases t_isPart w with ⟨j, j2, rfl, e6, e7⟩ | ⟨j1, e6, e7⟩
    · obtain ⟨bale', most', X', S', r1, r2, r3, r4⟩ := send_L hC hW e3 e4 hM hm (nI j) 3 0 400 400 (nI 0) (-nI 1) X S (by omega) (by omega) (by omega) (fun _ _ => rfl) (fun _ _ => rfl)
      refine ⟨if j = 0 then bale' else most', X', S', ?_, ?_, (h.xe fun k a1 _ _ => r3 k a1).me r4⟩
      · simp (disch := omega) only [fX4_send, lt, q_lit, q_some, h1, e7, q_eq, q_neg, r1]
        by_cases a1 : j = 0
        · simp (disch := omega) only [a1, q_T]
        · simp (disch := omega) only [a1, q_F]
      · simp (disch := omega) only [fX5_send, lt, q_lit, q_some, eb, e6, q_eq, q_neg, r2]
        by_cases a1 : j = 0
        · simp (disch := omega) only [a1, q_T]
        · simp (disch := omega) only [a1, q_F]
    · refine ⟨-1, X, S, ?_, ?_, h⟩
      · simp (disch := omega) only [fX4_send, lt, jn, q_lit, q_bnd, q_cl, q_le, q_lt, q_eq, pk_mul, nI_add, q_sub, q_div, q_pos, q_neg, q_T, q_F, q_max0, q_flg1, q_flg0, q_min, q_min2, q_bit, q_some, h1, e7]
      · simp (disch := omega) only [fX5_send, lt, jn, q_lit, q_bnd, q_cl, q_le, q_lt, q_eq, pk_mul, nI_add, q_sub, q_div, q_pos, q_neg, q_T, q_F, q_max0, q_flg1, q_flg0, q_min, q_min2, q_bit, q_some, eb, e6]
  · rw [h1] at eb
    refine ⟨-1, X, S, ?_, ?_, h⟩
    · simp (disch := omega) only [fX4_send, lt, jn, q_lit, q_bnd, q_cl, q_le, q_lt, q_eq, pk_mul, nI_add, q_sub, q_div, q_pos, q_neg, q_T, q_F, q_max0, q_flg1, q_flg0, q_min, q_min2, q_bit, q_some, h1]
    · simp (disch := omega) only [fX5_send, lt, jn, q_lit, q_bnd, q_cl, q_le, q_lt, q_eq, pk_mul, nI_add, q_sub, q_div, q_pos, q_neg, q_T, q_F, q_max0, q_flg1, q_flg0, q_min, q_min2, q_bit, q_some, eb]
end
section
/-! odds -/
theorem q_cmp0 {a : Nat} (h : a < 2 ^ 63) : (lg_cmp (lN a) 0 = nI 0) = (a = 0) := propext ((lg_cmp_eq (lN a) (lN 0)).trans (pk_lEQ h (by decide)))
theorem q_cmpp {a : Nat} (h : a < 2 ^ 63) : (nI 0 < lg_cmp (lN a) 0) = (0 < a) := propext ((lg_cmp_gt (lN a) (lN 0)).trans (pk_lLT (by decide) h))
theorem q_l0 {a : Nat} (h : a < 2 ^ 63) : (lN a = 0) = (a = 0) := propext (pk_lEQ (b := 0) h (by decide))
theorem half_mod {b r k : Nat} (hr : 0 < r) (hb : r < b) (h : b < 2 ^ (k + 1)) : b % r < 2 ^ k := by
  have h1 := Nat.mod_lt b hr
  have h2 : r * 1 ≤ r * (b / r) := Nat.mul_le_mul_left r (Nat.div_pos (Nat.le_of_lt hb) hr)
  have h3 := Nat.div_add_mod b r
  rw [Nat.pow_succ] at h
  omega
theorem gcd_c : ∀ (k a b n t : Nat) (kk : Int64 → Option Int64), a < 2 ^ 31 → b < 2 ^ 31 → b < 2 ^ k → 2 * k < n → t + 2 * k ≤ 200 → fX4_commonDivisor_L3 kk n (lN a) (lN b) (nI t) = kk (lN (Nat.gcd b a))
  | 0, a, b, n + 1, t, kk, ha, hb, hk, hn, ht => by
    have e : b = 0 := by omega
    subst e
    rw [Nat.gcd_zero_left]
    by_cases e2 : 200 ≤ t
    · simp (disch := omega) only [fX4_commonDivisor_L3, lt, jn, q_lit, q_bnd, q_cl, q_le, q_lt, q_eq, pk_mul, nI_add, q_sub, q_div, q_pos, q_neg, q_T, q_F, q_max0, q_flg1, q_flg0, q_min, q_min2, q_bit, q_some]
    · simp (disch := omega) only [fX4_commonDivisor_L3, lt, jn, q_lit, q_bnd, q_cl, q_le, q_lt, q_eq, pk_mul, nI_add, q_sub, q_div, q_pos, q_neg, q_T, q_F, q_max0, q_flg1, q_flg0, q_min, q_min2, q_bit, q_some, q_cmp0]
  | k + 1, a, b, n + 2, t, kk, ha, hb, hk, hn, ht => by
    by_cases e : b = 0
    · subst e
      rw [Nat.gcd_zero_left]
      simp (disch := omega) only [fX4_commonDivisor_L3, lt, jn, q_lit, q_bnd, q_cl, q_le, q_lt, q_eq, pk_mul, nI_add, q_sub, q_div, q_pos, q_neg, q_T, q_F, q_max0, q_flg1, q_flg0, q_min, q_min2, q_bit, q_some, q_cmp0]
    · have h1 := Nat.mod_lt a (show 0 < b by omega)
      rw [Nat.gcd_rec b a]
      by_cases e2 : a % b = 0
      · rw [e2, Nat.gcd_zero_left]
        simp (disch := omega) only [fX4_commonDivisor_L3, lt, jn, q_lit, q_bnd, q_cl, q_le, q_lt, q_eq, pk_mul, nI_add, q_sub, q_div, q_pos, q_neg, q_T, q_F, q_max0, q_flg1, q_flg0, q_min, q_min2, q_bit, q_some, q_cmp0, q_l0, pk_lRem, e2]
      · have ih := gcd_c k (a % b) (b % (a % b)) n (t + 1 + 1) kk (by omega) (by have := Nat.mod_lt b (show 0 < a % b by omega); omega) (half_mod (by omega) h1 hk) (by omega) (by omega)
        rw [Nat.gcd_rec (a % b) b, ← ih]
        have h2 := Nat.mod_lt b (show 0 < a % b by omega)
        simp (disch := omega) only [fX4_commonDivisor_L3, lt, jn, q_lit, q_bnd, q_cl, q_le, q_lt, q_eq, pk_mul, nI_add, q_sub, q_div, q_pos, q_neg, q_T, q_F, q_max0, q_flg1, q_flg0, q_min, q_min2, q_bit, q_some, q_cmp0, q_l0, pk_lRem]
theorem gcd_m : ∀ (k a b n : Nat) (kk : Int64 → Option Int64), a < 2 ^ 31 → b < 2 ^ 31 → b < 2 ^ k → 2 * k < n → fX5_common_L6 kk n (lN a) (lN b) = kk (lN (Nat.gcd b a))
  | 0, a, b, n + 1, kk, ha, hb, hk, hn => by
    have e : b = 0 := by omega
    subst e
    rw [Nat.gcd_zero_left]
    simp (disch := omega) only [fX5_common_L6, lt, jn, q_lit, q_bnd, q_cl, q_le, q_lt, q_eq, pk_mul, nI_add, q_sub, q_div, q_pos, q_neg, q_T, q_F, q_max0, q_flg1, q_flg0, q_min, q_min2, q_bit, q_some, q_cmp0]
  | k + 1, a, b, n + 2, kk, ha, hb, hk, hn => by
    by_cases e : b = 0
    · subst e
      rw [Nat.gcd_zero_left]
      simp (disch := omega) only [fX5_common_L6, lt, jn, q_lit, q_bnd, q_cl, q_le, q_lt, q_eq, pk_mul, nI_add, q_sub, q_div, q_pos, q_neg, q_T, q_F, q_max0, q_flg1, q_flg0, q_min, q_min2, q_bit, q_some, q_cmp0]
    · have h1 := Nat.mod_lt a (show 0 < b by omega)
      rw [Nat.gcd_rec b a]
      by_cases e2 : a % b = 0
      · rw [e2, Nat.gcd_zero_left]
        simp (disch := omega) only [fX5_common_L6, lt, jn, q_lit, q_bnd, q_cl, q_le, q_lt, q_eq, pk_mul, nI_add, q_sub, q_div, q_pos, q_neg, q_T, q_F, q_max0, q_flg1, q_flg0, q_min, q_min2, q_bit, q_some, q_cmp0, q_l0, pk_lRem, e2]
      · have ih := gcd_m k (a % b) (b % (a % b)) n kk (by omega) (by have := Nat.mod_lt b (show 0 < a % b by omega); omega) (half_mod (by omega) h1 hk) (by omega)
        rw [Nat.gcd_rec (a % b) b, ← ih]
        have h2 := Nat.mod_lt b (show 0 < a % b by omega)
        simp (disch := omega) only [fX5_common_L6, lt, jn, q_lit, q_bnd, q_cl, q_le, q_lt, q_eq, pk_mul, nI_add, q_sub, q_div, q_pos, q_neg, q_T, q_F, q_max0, q_flg1, q_flg0, q_min, q_min2, q_bit, q_some, q_cmp0, q_l0, pk_lRem]
def spWay (v fl : Nat) : Nat → Nat
  | 0 => 1
  | t + 1 => spWay v fl t * if fl.testBit t = true then v else 10 - v
theorem spWay_le {v fl : Nat} (hv : v ≤ 10) : ∀ t, spWay v fl t ≤ 10 ^ t
  | 0 => Nat.le_refl 1
  | t + 1 => by
    rw [spWay, Nat.pow_succ]
    refine Nat.mul_le_mul (spWay_le hv t) ?_
    split <;> omega
theorem t_way_L {X : M3} {n v fl : Nat} (h7 : X 2 7 0 = nI n) (hn : n ≤ 4) (hv : v ≤ 10) (hf : fl < 32) (kk : Int64 → Option Int64) : ∀ d t f : Nat, t + d = n → d < f → fX4_weight_L5 X (nI v) (nI fl) kk f (lN (spWay v fl t)) (nI t) = kk (lN (spWay v fl n))
  | 0, t, f + 1, ht, hd => by
    have e : t = n := by omega
    simp (disch := omega) only [fX4_weight_L5, lt, jn, q_lit, q_bnd, q_cl, q_le, q_lt, q_eq, pk_mul, nI_add, q_sub, q_div, q_pos, q_neg, q_T, q_F, q_max0, q_flg1, q_flg0, q_min, q_min2, q_bit, q_some, h7, e]
  | d + 1, t, f + 1, ht, hd => by
    have ih := t_way_L h7 hn hv hf kk d (t + 1) f (by omega) (by omega)
    rw [spWay] at ih
    simp (disch := omega) only [fX4_weight_L5, lt, jn, q_lit, q_bnd, q_cl, q_le, q_lt, q_eq, pk_mul, nI_add, q_sub, q_div, q_pos, q_neg, q_T, q_F, q_max0, q_flg1, q_flg0, q_min, q_min2, q_bit, q_some, h7, q_b1, nI_l, lN_mul]
    split
    · rename_i e
      rw [if_pos e] at ih
      exact ih
    · rename_i e
      rw [if_neg e] at ih
      exact ih
theorem m_way_L {S : M2} {n v fl : Nat} (h7 : S 4 0 = nI n) (hn : n ≤ 4) (hv : v ≤ 10) (hf : fl < 32) (kk : Int64 → Option Int64) : ∀ d t f : Nat, t + d = n → d < f → fX5_waysOf_L5 S (nI fl) (nI v) kk f (lN (spWay v fl t)) (nI t) = kk (lN (spWay v fl n))
  | 0, t, f + 1, ht, hd => by
    have e : t = n := by omega
    simp (disch := omega) only [fX5_waysOf_L5, lt, jn, q_lit, q_bnd, q_cl, q_le, q_lt, q_eq, pk_mul, nI_add, q_sub, q_div, q_pos, q_neg, q_T, q_F, q_max0, q_flg1, q_flg0, q_min, q_min2, q_bit, q_some, h7, e]
  | d + 1, t, f + 1, ht, hd => by
    have ih := m_way_L h7 hn hv hf kk d (t + 1) f (by omega) (by omega)
    rw [spWay] at ih
    simp (disch := omega) only [fX5_waysOf_L5, lt, jn, q_lit, q_bnd, q_cl, q_le, q_lt, q_eq, pk_mul, nI_add, q_sub, q_div, q_pos, q_neg, q_T, q_F, q_max0, q_flg1, q_flg0, q_min, q_min2, q_bit, q_some, h7, q_b1, nI_l, lN_mul]
    split
    · rename_i e
      rw [if_pos e] at ih
      exact ih
    · rename_i e
      rw [if_neg e] at ih
      exact ih
theorem t_way {X : M3} {n v fl : Nat} (h7 : X 2 7 0 = nI n) (hn : n ≤ 4) (hv : v ≤ 10) (hf : fl < 32) : fX4_weight (nI v) (nI fl) X = some (lN (spWay v fl n)) :=
  t_way_L h7 hn hv hf (fun p => some p) n 0 400 (by omega) (by omega)
theorem m_way {S : M2} {n v fl : Nat} (h7 : S 4 0 = nI n) (hn : n ≤ 4) (hv : v ≤ 10) (hf : fl < 32) : fX5_waysOf (nI fl) (nI v) S = some (lN (spWay v fl n)) :=
  m_way_L h7 hn hv hf (fun p => some p) n 0 400 (by omega) (by omega)
theorem t_cases_L {X : M3} {n : Nat} (h7 : X 2 7 0 = nI n) (hn : n ≤ 4) (l1 : Int64) (i3 : Int32) (kk : Int64 → Option Int64) : ∀ d t f : Nat, t + d = n → d < f → fX4_partOfFraction_L6 X l1 i3 kk f (lN (10 ^ t)) (nI t) = kk (lN (10 ^ n))
  | 0, t, f + 1, ht, hd => by
    have e : t = n := by omega
    simp (disch := omega) only [fX4_partOfFraction_L6, lt, jn, q_lit, q_bnd, q_cl, q_le, q_lt, q_eq, pk_mul, nI_add, q_sub, q_div, q_pos, q_neg, q_T, q_F, q_max0, q_flg1, q_flg0, q_min, q_min2, q_bit, q_some, h7, e]
  | d + 1, t, f + 1, ht, hd => by
    have ih := t_cases_L h7 hn l1 i3 kk d (t + 1) f (by omega) (by omega)
    rw [Nat.pow_succ, ← lN_mul] at ih
    simp (disch := omega) only [fX4_partOfFraction_L6, lt, jn, q_lit, q_bnd, q_cl, q_le, q_lt, q_eq, pk_mul, nI_add, q_sub, q_div, q_pos, q_neg, q_T, q_F, q_max0, q_flg1, q_flg0, q_min, q_min2, q_bit, q_some, h7]
    exact ih
theorem m_cases_L {S : M2} {n : Nat} (h7 : S 4 0 = nI n) (hn : n ≤ 4) (kk : Int64 → Option Int64) : ∀ d t f : Nat, t + d = n → d < f → fX5_allWays_L4 S kk f (lN (10 ^ t)) (nI t) = kk (lN (10 ^ n))
  | 0, t, f + 1, ht, hd => by
    have e : t = n := by omega
    simp (disch := omega) only [fX5_allWays_L4, lt, jn, q_lit, q_bnd, q_cl, q_le, q_lt, q_eq, pk_mul, nI_add, q_sub, q_div, q_pos, q_neg, q_T, q_F, q_max0, q_flg1, q_flg0, q_min, q_min2, q_bit, q_some, h7, e]
  | d + 1, t, f + 1, ht, hd => by
    have ih := m_cases_L h7 hn kk d (t + 1) f (by omega) (by omega)
    rw [Nat.pow_succ, ← lN_mul] at ih
    simp (disch := omega) only [fX5_allWays_L4, lt, jn, q_lit, q_bnd, q_cl, q_le, q_lt, q_eq, pk_mul, nI_add, q_sub, q_div, q_pos, q_neg, q_T, q_F, q_max0, q_flg1, q_flg0, q_min, q_min2, q_bit, q_some, h7]
    exact ih
theorem frac {X : M3} {S : M2} {n s : Nat} (h7 : X 2 7 0 = nI n) (h4 : S 4 0 = nI n) (hn : n ≤ 4) (hs : s < 2 ^ 31) {j : Nat} (hj : j < 2) : ∃ a, fX4_partOfFraction (lN s) (nI j) X = some a ∧ ((fX5_allWays S).bind fun r => fX5_told (lN s) r (nI j)) = some a := by
  have hp : 0 < 10 ^ n := Nat.pow_pos (by decide)
  have hp2 : 10 ^ n ≤ 10 ^ 4 := Nat.pow_le_pow_right (by decide) hn
  have hg : 0 < Nat.gcd s (10 ^ n) := Nat.gcd_pos_of_pos_right _ hp
  have hg2 : Nat.gcd s (10 ^ n) ≤ 10 ^ n := Nat.gcd_le_right _ hp
  have e1 : fX4_commonDivisor (lN (10 ^ n)) (lN s) = some (lN (Nat.gcd s (10 ^ n))) := gcd_c 31 (10 ^ n) s 400 0 _ (by omega) hs hs (by omega) (by omega)
  have e2 : fX5_common (lN (10 ^ n)) (lN s) = some (lN (Nat.gcd s (10 ^ n))) := gcd_m 31 (10 ^ n) s 400 _ (by omega) hs hs (by omega)
  have e3 : fX5_allWays S = some (lN (10 ^ n)) := m_cases_L h4 hn _ n 0 400 (by omega) (by omega)
  have e4 := fun kk => t_cases_L (X := X) h7 hn (lN s) (nI j) kk n 0 400 (by omega) (by omega)
  rw [Nat.pow_zero] at e4
  have e4' : ∀ kk, fX4_partOfFraction_L6 X (lN s) (nI j) kk 400 (1 : Int64) (nI 0) = kk (lN (10 ^ n)) := e4
  rcases (by omega : j = 0 ∨ j = 1) with rfl | rfl
  · refine ⟨lN (s / Nat.gcd s (10 ^ n)), ?_, ?_⟩
    · simp (disch := omega) only [fX4_partOfFraction, lt, jn, q_lit, q_bnd, q_cl, q_le, q_lt, q_eq, pk_mul, nI_add, q_sub, q_div, q_pos, q_neg, q_T, q_F, q_max0, q_flg1, q_flg0, q_min, q_min2, q_bit, q_some, e4', e1, q_cmpp, q_l0, pk_lDiv]
    · simp (disch := omega) only [fX5_told, lt, jn, q_lit, q_bnd, q_cl, q_le, q_lt, q_eq, pk_mul, nI_add, q_sub, q_div, q_pos, q_neg, q_T, q_F, q_max0, q_flg1, q_flg0, q_min, q_min2, q_bit, q_some, e3, e2, q_l0, pk_lDiv]
  · refine ⟨lN (10 ^ n / Nat.gcd s (10 ^ n)), ?_, ?_⟩
    · simp (disch := omega) only [fX4_partOfFraction, lt, jn, q_lit, q_bnd, q_cl, q_le, q_lt, q_eq, pk_mul, nI_add, q_sub, q_div, q_pos, q_neg, q_T, q_F, q_max0, q_flg1, q_flg0, q_min, q_min2, q_bit, q_some, e4', e1, q_cmpp, q_l0, pk_lDiv]
    · simp (disch := omega) only [fX5_told, lt, jn, q_lit, q_bnd, q_cl, q_le, q_lt, q_eq, pk_mul, nI_add, q_sub, q_div, q_pos, q_neg, q_T, q_F, q_max0, q_flg1, q_flg0, q_min, q_min2, q_bit, q_some, e3, e2, q_l0, pk_lDiv]
theorem m_every' {S : M2} {n : Nat} (h : S 4 0 = nI n) (hn : n ≤ 4) : fX5_everyMoth S = some (nI (2 ^ n - 1)) := by
  have hp : 0 < 2 ^ n := Nat.two_pow_pos _
  unfold fX5_everyMoth
  simp (disch := omega) only [lt, jn, q_lit, q_bnd, q_cl, q_le, q_lt, q_eq, pk_mul, nI_add, q_sub, q_div, q_pos, q_neg, q_T, q_F, q_max0, q_flg1, q_flg0, q_min, q_min2, q_bit, q_some, h, q_shl]
def spMean (N : NN) (B : BB) (v : Nat) : Nat → Nat
  | 0 => 0
  | t + 1 => spMean N B v t + spWay v t (N 7 0) * spAll (spNight N B t) B
def spLuck (N : NN) (B : BB) (v b : Nat) : Nat → Nat
  | 0 => 0
  | t + 1 => spLuck N B v b t + if spEaten (spNight N B t) b = true then spWay v t (N 7 0) else 0
theorem pw_fl {m t : Nat} (hm : m ≤ 4) (ht : t < 2 ^ m) : t < 32 := by
  have : 2 ^ m ≤ 2 ^ 4 := Nat.pow_le_pow_right (by decide) hm
  omega
theorem WF.night {N : NN} {B : BB} {fl : Nat} (hW : WF N B) (hf : fl < 32) {Q : M2} (hC : CS N B Q) : WF (spNight N B fl) B := (t_loose hf hC hW).choose_spec.2.2
theorem mean_L {X : M3} {S : M2} {N : NN} {B : BB} (hC : CS N B (X 2)) (hW : WF N B) (h3 : S 3 0 = nI (N 0 0)) (h4 : S 4 0 = nI (N 7 0)) (hM : MS N B (S 0)) {v : Nat} (hv : v ≤ 10) (w : Int32) : ∀ (d t f g : Nat) (X1 : M3) (S1 : M2), t + d = 2 ^ N 7 0 → d < f → d < g → (∀ q, q ≠ 3 → X1 q = X q) → ME S S1 → ∃ (X' : M3) (S' : M2), (∀ kk : (Int64 × M3) → Option (Int64 × M3), fX4_mean_L28 (nI v) w kk f (lN (spMean N B v t)) (nI t) X1 = kk (lN (spMean N B v (2 ^ N 7 0)), X')) ∧ (∀ kk : (Int64 × M2) → Option (Int64 × M2), fX5_mean_L28 (nI v) w kk g (lN (spMean N B v t)) (nI t) S1 = kk (lN (spMean N B v (2 ^ N 7 0)), S')) ∧ (∀ q, q ≠ 3 → X' q = X q) ∧ ME S S'
  | 0, t, f + 1, g + 1, X1, S1, ht, hf, hg, hX, hE => by
    have w1 := hW.1
    have hp : 0 < 2 ^ N 7 0 := Nat.two_pow_pos _
    have hp2 : 2 ^ N 7 0 ≤ 2 ^ 4 := Nat.pow_le_pow_right (by decide) w1.2.1
    have x2 := hX 2 (by decide)
    have h4' : S1 4 0 = nI (N 7 0) := by rw [hE 4 (by decide)]; exact h4
    have e : t = 2 ^ N 7 0 := by omega
    subst e
    refine ⟨X1, S1, fun kk => ?_, fun kk => ?_, hX, hE⟩
    · simp (disch := omega) only [fX4_mean_L28, lt, jn, q_lit, q_bnd, q_cl, q_le, q_lt, q_eq, pk_mul, nI_add, q_sub, q_div, q_pos, q_neg, q_T, q_F, q_max0, q_flg1, q_flg0, q_min, q_min2, q_bit, q_some, x2, hC.1.2.2.1, q_shl]
    · simp (disch := omega) only [fX5_mean_L28, lt, jn, q_lit, q_bnd, q_cl, q_le, q_lt, q_eq, pk_mul, nI_add, q_sub, q_div, q_pos, q_neg, q_T, q_F, q_max0, q_flg1, q_flg0, q_min, q_min2, q_bit, q_some, m_every' h4' w1.2.1]
  | d + 1, t, f + 1, g + 1, X1, S1, ht, hf, hg, hX, hE => by
    have w1 := hW.1
    have hp : 0 < 2 ^ N 7 0 := Nat.two_pow_pos _
    have hp2 : 2 ^ N 7 0 ≤ 2 ^ 4 := Nat.pow_le_pow_right (by decide) w1.2.1
    have x2 := hX 2 (by decide)
    have h4' : S1 4 0 = nI (N 7 0) := by rw [hE 4 (by decide)]; exact h4
    have hfl : t < 32 := by omega
    have hC1 : CS N B (X1 2) := by rw [x2]; exact hC
    obtain ⟨Q, q1, q2, q3⟩ := t_try (X := X1) hfl hC1 hW
    have qd := t_dutyAll q2 q3
    have ql := spAll_le q3
    have e7 : va_up X1 3 Q 2 7 0 = nI (N 7 0) := hC1.1.2.2.1
    have qw := t_way e7 w1.2.1 hv hfl
    obtain ⟨S2, i1, i2⟩ := m_starts hE h3 h4 hM hW
    obtain ⟨S3, j1, j2, j3⟩ := m_night hfl i2 hW
    have jd := m_dutyAll j2 j3
    have e3 : spAll (spPass N B t) B = spAll (spNight N B t) B := rfl
    rw [e3] at jd
    have jw := m_way (S := S3) (n := N 7 0) j2.m w1.2.1 hv hfl
    obtain ⟨X', S', r1, r2, r3⟩ := mean_L hC hW h3 h4 hM hv w d (t + 1) f g (va_up X1 3 Q) S3 (by omega) (by omega) (by omega) (fun q hq => by rw [q_up, if_neg hq]; exact hX q hq) (ME.ma j2)
    rw [spMean, ← lN_add, ← lN_mul] at r1 r2
    refine ⟨X', S', fun kk => ?_, fun kk => ?_, r3⟩
    · rw [← r1 kk]
      simp (disch := omega) only [fX4_mean_L28, lt, jn, q_lit, q_bnd, q_cl, q_le, q_lt, q_eq, pk_mul, nI_add, q_sub, q_div, q_pos, q_neg, q_T, q_F, q_max0, q_flg1, q_flg0, q_min, q_min2, q_bit, q_some, x2, hC.1.2.2.1, q_shl, q1, qw, q_up, qd, nI_l]
    · rw [← r2 kk, Int64.mul_comm]
      simp (disch := omega) only [fX5_mean_L28, lt, jn, q_lit, q_bnd, q_cl, q_le, q_lt, q_eq, pk_mul, nI_add, q_sub, q_div, q_pos, q_neg, q_T, q_F, q_max0, q_flg1, q_flg0, q_min, q_min2, q_bit, q_some, m_every' h4' w1.2.1, i1, j1, jd, jw, nI_l]
theorem luck_L {X : M3} {S : M2} {N : NN} {B : BB} (hC : CS N B (X 2)) (hW : WF N B) (h3 : S 3 0 = nI (N 0 0)) (h4 : S 4 0 = nI (N 7 0)) (hM : MS N B (S 0)) {v b : Nat} (hv : v ≤ 10) (hb : b < N 0 0) (w : Int32) : ∀ (d t f g : Nat) (X1 : M3) (S1 : M2), t + d = 2 ^ N 7 0 → d < f → d < g → (∀ q, q ≠ 3 → X1 q = X q) → ME S S1 → ∃ (X' : M3) (S' : M2), (∀ kk : (Int64 × M3) → Option (Int64 × M3), fX4_luck_L40 (nI v) (nI b) w kk f (lN (spLuck N B v b t)) (nI t) X1 = kk (lN (spLuck N B v b (2 ^ N 7 0)), X')) ∧ (∀ kk : (Int64 × M2) → Option (Int64 × M2), fX5_luck_L37 (nI v) (nI b) w kk g (lN (spLuck N B v b t)) (nI t) S1 = kk (lN (spLuck N B v b (2 ^ N 7 0)), S')) ∧ (∀ q, q ≠ 3 → X' q = X q) ∧ ME S S'
  | 0, t, f + 1, g + 1, X1, S1, ht, hf, hg, hX, hE => by
    have w1 := hW.1
    have hp : 0 < 2 ^ N 7 0 := Nat.two_pow_pos _
    have hp2 : 2 ^ N 7 0 ≤ 2 ^ 4 := Nat.pow_le_pow_right (by decide) w1.2.1
    have x2 := hX 2 (by decide)
    have h4' : S1 4 0 = nI (N 7 0) := by rw [hE 4 (by decide)]; exact h4
    have e : t = 2 ^ N 7 0 := by omega
    subst e
    refine ⟨X1, S1, fun kk => ?_, fun kk => ?_, hX, hE⟩
    · simp (disch := omega) only [fX4_luck_L40, lt, jn, q_lit, q_bnd, q_cl, q_le, q_lt, q_eq, pk_mul, nI_add, q_sub, q_div, q_pos, q_neg, q_T, q_F, q_max0, q_flg1, q_flg0, q_min, q_min2, q_bit, q_some, x2, hC.1.2.2.1, q_shl]
    · simp (disch := omega) only [fX5_luck_L37, lt, jn, q_lit, q_bnd, q_cl, q_le, q_lt, q_eq, pk_mul, nI_add, q_sub, q_div, q_pos, q_neg, q_T, q_F, q_max0, q_flg1, q_flg0, q_min, q_min2, q_bit, q_some, m_every' h4' w1.2.1]
  | d + 1, t, f + 1, g + 1, X1, S1, ht, hf, hg, hX, hE => by
    have w1 := hW.1
    have hp : 0 < 2 ^ N 7 0 := Nat.two_pow_pos _
    have hp2 : 2 ^ N 7 0 ≤ 2 ^ 4 := Nat.pow_le_pow_right (by decide) w1.2.1
    have x2 := hX 2 (by decide)
    have h4' : S1 4 0 = nI (N 7 0) := by rw [hE 4 (by decide)]; exact h4
    have hfl : t < 32 := by omega
    have hC1 : CS N B (X1 2) := by rw [x2]; exact hC
    obtain ⟨Q, q1, q2, q3⟩ := t_try (X := X1) hfl hC1 hW
    have hb2 : b < spNight N B t 0 0 := hb
    have qe := t_eaten q2 q3 hb2
    have e7 : va_up X1 3 Q 2 7 0 = nI (N 7 0) := hC1.1.2.2.1
    have qw := t_way e7 w1.2.1 hv hfl
    obtain ⟨S2, i1, i2⟩ := m_starts hE h3 h4 hM hW
    obtain ⟨S3, j1, j2, j3⟩ := m_night hfl i2 hW
    have je : fX5_isEaten (nI b) S3 = some (nI (spEaten (spNight N B t) b).toNat) := m_eaten1 j2 j3 hb
    have jw := m_way (S := S3) (n := N 7 0) j2.m w1.2.1 hv hfl
    obtain ⟨X', S', r1, r2, r3⟩ := luck_L hC hW h3 h4 hM hv hb w d (t + 1) f g (va_up X1 3 Q) S3 (by omega) (by omega) (by omega) (fun q hq => by rw [q_up, if_neg hq]; exact hX q hq) (ME.ma j2)
    rw [spLuck] at r1 r2
    by_cases e : spEaten (spNight N B t) b = true
    · rw [if_pos e, ← lN_add] at r1 r2
      refine ⟨X', S', fun kk => ?_, fun kk => ?_, r3⟩
      · rw [← r1 kk]
        simp (disch := omega) only [fX4_luck_L40, lt, jn, q_lit, q_bnd, q_cl, q_le, q_lt, q_eq, pk_mul, nI_add, q_sub, q_div, q_pos, q_neg, q_T, q_F, q_max0, q_flg1, q_flg0, q_min, q_min2, q_bit, q_some, x2, hC.1.2.2.1, q_shl, q1, qw, q_up, qe, q_b0, e, Bool.true_eq_false]
      · rw [← r2 kk]
        simp (disch := omega) only [fX5_luck_L37, lt, jn, q_lit, q_bnd, q_cl, q_le, q_lt, q_eq, pk_mul, nI_add, q_sub, q_div, q_pos, q_neg, q_T, q_F, q_max0, q_flg1, q_flg0, q_min, q_min2, q_bit, q_some, m_every' h4' w1.2.1, i1, j1, je, jw, q_b0, e, Bool.true_eq_false]
    · have e' : spEaten (spNight N B t) b = false := by simpa using e
      rw [if_neg e, Nat.add_zero] at r1 r2
      refine ⟨X', S', fun kk => ?_, fun kk => ?_, r3⟩
      · rw [← r1 kk]
        simp (disch := omega) only [fX4_luck_L40, lt, jn, q_lit, q_bnd, q_cl, q_le, q_lt, q_eq, pk_mul, nI_add, q_sub, q_div, q_pos, q_neg, q_T, q_F, q_max0, q_flg1, q_flg0, q_min, q_min2, q_bit, q_some, x2, hC.1.2.2.1, q_shl, q1, qw, q_up, qe, q_b0, e', Int64.add_zero]
      · rw [← r2 kk]
        simp (disch := omega) only [fX5_luck_L37, lt, jn, q_lit, q_bnd, q_cl, q_le, q_lt, q_eq, pk_mul, nI_add, q_sub, q_div, q_pos, q_neg, q_T, q_F, q_max0, q_flg1, q_flg0, q_min, q_min2, q_bit, q_some, m_every' h4' w1.2.1, i1, j1, je, jw, q_b0, e', Int64.add_zero]
theorem spMean_le {N : NN} {B : BB} {v : Nat} (hv : v ≤ 10) (h7 : N 7 0 ≤ 4) : ∀ t, (∀ j, j < t → spAll (spNight N B j) B ≤ 405) → spMean N B v t ≤ t * 4050000
  | 0, _ => Nat.zero_le _
  | t + 1, h => by
    have h1 := spMean_le (N := N) (B := B) hv h7 t fun j hj => h j (by omega)
    have h2 := h t (by omega)
    have h3 := spWay_le (v := v) (fl := t) hv (N 7 0)
    have h4 : 10 ^ N 7 0 ≤ 10 ^ 4 := Nat.pow_le_pow_right (by decide) h7
    have h5 : spWay v t (N 7 0) * spAll (spNight N B t) B ≤ 10 ^ 4 * 405 := Nat.mul_le_mul (by omega) h2
    rw [spMean]
    omega
theorem spLuck_le {N : NN} {B : BB} {v b : Nat} (hv : v ≤ 10) (h7 : N 7 0 ≤ 4) : ∀ t, spLuck N B v b t ≤ t * 10000
  | 0 => Nat.zero_le _
  | t + 1 => by
    have h1 := spLuck_le (N := N) (B := B) (b := b) hv h7 t
    have h3 := spWay_le (v := v) (fl := t) hv (N 7 0)
    have h4 : 10 ^ N 7 0 ≤ 10 ^ 4 := Nat.pow_le_pow_right (by decide) h7
    have h5 : spWay v t (N 7 0) ≤ 10000 := Nat.le_trans h3 h4
    rw [spLuck, Nat.succ_mul]
    refine Nat.add_le_add h1 ?_
    by_cases e : spEaten (spNight N B t) b = true
    · rw [if_pos e]
      exact h5
    · rw [if_neg e]
      exact Nat.zero_le _
theorem k_mean {X : M3} {S : M2} (h : R X S) (x w : Int32) : ∃ a X' S', fX4_mean x w X = some (a, X') ∧ fX5_mean x w S = some (a, S') ∧ R X' S' := by
  obtain ⟨N, B, hW, hn, hC, hM, e3, e4, hN, hK⟩ := h.data
  have w1 := hW.1
  have hp : 0 < 2 ^ N 7 0 := Nat.two_pow_pos _
  have hp2 : 2 ^ N 7 0 ≤ 2 ^ 4 := Nat.pow_le_pow_right (by decide) w1.2.1
  rcases q_within x (a := 0) (b := 10) (by omega) with ⟨v, -, v2, rfl⟩ | ⟨-, v2⟩
  · rcases t_isPart w with ⟨j, j2, rfl, e6, e7⟩ | ⟨j1, e6, e7⟩
    · obtain ⟨X', S', r1, r2, r3, r4⟩ := mean_L hC hW e3 e4 hM v2 (nI j) (2 ^ N 7 0) 0 400 400 X S (by omega) (by omega) (by omega) (fun _ _ => rfl) (fun _ _ => rfl)
      have hs := spMean_le (N := N) (B := B) v2 w1.2.1 (2 ^ N 7 0) fun j hj => spAll_le (hW.night (by omega) hC)
      have f7 : X' 2 7 0 = nI (N 7 0) := by rw [r3 2 (by decide)]; exact hC.1.2.2.1
      have f4 : S' 4 0 = nI (N 7 0) := by rw [r4 4 (by decide)]; exact e4
      obtain ⟨a, a1, a2⟩ := frac f7 f4 w1.2.1 (s := spMean N B v (2 ^ N 7 0)) (by omega) j2
      have r1' : ∀ kk, fX4_mean_L28 (nI v) (nI j) kk 400 (0 : Int64) (nI 0) X = kk (lN (spMean N B v (2 ^ N 7 0)), X') := r1
      have r2' : ∀ kk, fX5_mean_L28 (nI v) (nI j) kk 400 (0 : Int64) (nI 0) S = kk (lN (spMean N B v (2 ^ N 7 0)), S') := r2
      have a2' : (fX5_allWays S').bind (fun r17 => (fX5_told (lN (spMean N B v (2 ^ N 7 0))) r17 (nI j)).bind fun r18 => some (r18, S')) = some (a, S') := by
        rw [← Option.bind_assoc, a2, q_some]
      refine ⟨a, X', S', ?_, ?_, (h.xe fun k a1 _ _ => r3 k a1).me r4⟩
      · simp (disch := omega) only [fX4_mean, q_win, lt, q_lit, q_some, q_eq, q_neg, r1', a1]
      · simp (disch := omega) only [fX5_mean, q_win, q_in_0_127, q_in_0_1, q_in_0_2, q_in_0_3, q_in_0_4, q_in_0_5, q_in_0_9, q_in_0_10, q_in_0_20, q_in_1_20, q_in_48_57, q_in_97_122, q_inB, lt, q_lit, q_some, q_eq, q_neg, e6, r2', a2']
    · refine ⟨-1, X, S, ?_, ?_, h⟩
      · simp (disch := omega) only [fX4_mean, q_win, lt, jn, q_lit, q_bnd, q_cl, q_le, q_lt, q_eq, pk_mul, nI_add, q_sub, q_div, q_pos, q_neg, q_T, q_F, q_max0, q_flg1, q_flg0, q_min, q_min2, q_bit, q_some, e7]
      · simp (disch := omega) only [fX5_mean, q_win, lt, jn, q_lit, q_bnd, q_cl, q_le, q_lt, q_eq, pk_mul, nI_add, q_sub, q_div, q_pos, q_neg, q_T, q_F, q_max0, q_flg1, q_flg0, q_min, q_min2, q_bit, q_some, q_in_0_127, q_in_0_1, q_in_0_2, q_in_0_3, q_in_0_4, q_in_0_5, q_in_0_9, q_in_0_10, q_in_0_20, q_in_1_20, q_in_48_57, q_in_97_122, q_inB, e6]
  · refine ⟨-1, X, S, ?_, ?_, h⟩
    · simp (disch := omega) only [fX4_mean, lt, jn, q_lit, q_bnd, q_cl, q_le, q_lt, q_eq, pk_mul, nI_add, q_sub, q_div, q_pos, q_neg, q_T, q_F, q_max0, q_flg1, q_flg0, q_min, q_min2, q_bit, q_some, v2]
    · simp (disch := omega) only [fX5_mean, lt, jn, q_lit, q_bnd, q_cl, q_le, q_lt, q_eq, pk_mul, nI_add, q_sub, q_div, q_pos, q_neg, q_T, q_F, q_max0, q_flg1, q_flg0, q_min, q_min2, q_bit, q_some, q_in_0_127, q_in_0_1, q_in_0_2, q_in_0_3, q_in_0_4, q_in_0_5, q_in_0_9, q_in_0_10, q_in_0_20, q_in_1_20, q_in_48_57, q_in_97_122, q_inB, v2]
theorem k_luck {X : M3} {S : M2} (h : R X S) (x y w : Int32) : ∃ a X' S', fX4_luck x y w X = some (a, X') ∧ fX5_luck x y w S = some (a, S') ∧ R X' S' := by
  obtain ⟨N, B, hW, hn, hC, hM, e3, e4, hN, hK⟩ := h.data
  have w1 := hW.1
  have hp : 0 < 2 ^ N 7 0 := Nat.two_pow_pos _
  have hp2 : 2 ^ N 7 0 ≤ 2 ^ 4 := Nat.pow_le_pow_right (by decide) w1.2.1
  have eb : fX5_isBolt y S = fX1_hasBolt y (X 2) := m_isBolt (e3.trans hC.1.1.symm) y
  rcases q_within x (a := 0) (b := 10) (by omega) with ⟨v, -, v2, rfl⟩ | ⟨-, v2⟩
  · rcases t_hasBolt hC.1.1 w1.1 y with ⟨b, hb, rfl, h1⟩ | ⟨-, h1⟩
    · rw [h1] at eb
      rcases t_isPart w with ⟨j, j2, rfl, e6, e7⟩ | ⟨j1, e6, e7⟩
      · obtain ⟨X', S', r1, r2, r3, r4⟩ := luck_L hC hW e3 e4 hM v2 hb (nI j) (2 ^ N 7 0) 0 400 400 X S (by omega) (by omega) (by omega) (fun _ _ => rfl) (fun _ _ => rfl)
        have hs := spLuck_le (N := N) (B := B) (b := b) v2 w1.2.1 (2 ^ N 7 0)
        have f7 : X' 2 7 0 = nI (N 7 0) := by rw [r3 2 (by decide)]; exact hC.1.2.2.1
        have f4 : S' 4 0 = nI (N 7 0) := by rw [r4 4 (by decide)]; exact e4
        obtain ⟨a, a1, a2⟩ := frac f7 f4 w1.2.1 (s := spLuck N B v b (2 ^ N 7 0)) (by omega) j2
        have r1' : ∀ kk, fX4_luck_L40 (nI v) (nI b) (nI j) kk 400 (0 : Int64) (nI 0) X = kk (lN (spLuck N B v b (2 ^ N 7 0)), X') := r1
        have r2' : ∀ kk, fX5_luck_L37 (nI v) (nI b) (nI j) kk 400 (0 : Int64) (nI 0) S = kk (lN (spLuck N B v b (2 ^ N 7 0)), S') := r2
        have a2' : (fX5_allWays S').bind (fun r17 => (fX5_told (lN (spLuck N B v b (2 ^ N 7 0))) r17 (nI j)).bind fun r18 => some (r18, S')) = some (a, S') := by
          rw [← Option.bind_assoc, a2, q_some]
        refine ⟨a, X', S', ?_, ?_, (h.xe fun k a1 _ _ => r3 k a1).me r4⟩
        · simp (disch := omega) only [fX4_luck, q_win, lt, q_lit, q_some, q_eq, q_neg, h1, e7, r1', a1]
        · simp (disch := omega) only [fX5_luck, q_win, q_in_0_127, q_in_0_1, q_in_0_2, q_in_0_3, q_in_0_4, q_in_0_5, q_in_0_9, q_in_0_10, q_in_0_20, q_in_1_20, q_in_48_57, q_in_97_122, q_inB, lt, q_lit, q_some, q_eq, q_neg, eb, e6, r2', a2']
      · refine ⟨-1, X, S, ?_, ?_, h⟩
        · simp (disch := omega) only [fX4_luck, q_win, lt, jn, q_lit, q_bnd, q_cl, q_le, q_lt, q_eq, pk_mul, nI_add, q_sub, q_div, q_pos, q_neg, q_T, q_F, q_max0, q_flg1, q_flg0, q_min, q_min2, q_bit, q_some, h1, e7]
        · simp (disch := omega) only [fX5_luck, q_win, lt, jn, q_lit, q_bnd, q_cl, q_le, q_lt, q_eq, pk_mul, nI_add, q_sub, q_div, q_pos, q_neg, q_T, q_F, q_max0, q_flg1, q_flg0, q_min, q_min2, q_bit, q_some, q_in_0_127, q_in_0_1, q_in_0_2, q_in_0_3, q_in_0_4, q_in_0_5, q_in_0_9, q_in_0_10, q_in_0_20, q_in_1_20, q_in_48_57, q_in_97_122, q_inB, eb, e6]
    · rw [h1] at eb
      refine ⟨-1, X, S, ?_, ?_, h⟩
      · simp (disch := omega) only [fX4_luck, q_win, lt, jn, q_lit, q_bnd, q_cl, q_le, q_lt, q_eq, pk_mul, nI_add, q_sub, q_div, q_pos, q_neg, q_T, q_F, q_max0, q_flg1, q_flg0, q_min, q_min2, q_bit, q_some, h1]
      · simp (disch := omega) only [fX5_luck, q_win, lt, jn, q_lit, q_bnd, q_cl, q_le, q_lt, q_eq, pk_mul, nI_add, q_sub, q_div, q_pos, q_neg, q_T, q_F, q_max0, q_flg1, q_flg0, q_min, q_min2, q_bit, q_some, q_in_0_127, q_in_0_1, q_in_0_2, q_in_0_3, q_in_0_4, q_in_0_5, q_in_0_9, q_in_0_10, q_in_0_20, q_in_1_20, q_in_48_57, q_in_97_122, q_inB, eb]
  · refine ⟨-1, X, S, ?_, ?_, h⟩
    · simp (disch := omega) only [fX4_luck, lt, jn, q_lit, q_bnd, q_cl, q_le, q_lt, q_eq, pk_mul, nI_add, q_sub, q_div, q_pos, q_neg, q_T, q_F, q_max0, q_flg1, q_flg0, q_min, q_min2, q_bit, q_some, v2]
    · simp (disch := omega) only [fX5_luck, lt, jn, q_lit, q_bnd, q_cl, q_le, q_lt, q_eq, pk_mul, nI_add, q_sub, q_div, q_pos, q_neg, q_T, q_F, q_max0, q_flg1, q_flg0, q_min, q_min2, q_bit, q_some, q_in_0_127, q_in_0_1, q_in_0_2, q_in_0_3, q_in_0_4, q_in_0_5, q_in_0_9, q_in_0_10, q_in_0_20, q_in_1_20, q_in_48_57, q_in_97_122, q_inB, v2]
end
section
/-! what was counted; by a seed -/
theorem spSeen_pass {N : NN} {B : BB} {fl st : Nat} : ∀ d i : Nat, spSeen (spPass N B fl) st d i = spSeen (spNight N B fl) st d i
  | 0, _ => rfl
  | d + 1, i => by
    rw [spSeen, spSeen, spSeen_pass d (i + 1)]
    rfl
theorem sn_of {N : NN} {B : BB} {S S1 : M2} (hM : MS N B (S 0)) (hE : ME S S1) : SN N S1 := by
  have e : S1 0 = S 0 := hE 0 (by decide)
  refine ⟨?_, fun i hi => ?_⟩
  · rw [e]
    exact hM.1.2.2.2
  · rw [e]
    exact hM.2.2.2.1 i hi
theorem t_seenN {N : NN} {B : BB} {Q : M2} {fl : Nat} (q2 : CS (spNight N B fl) B Q) (q3 : WF (spNight N B fl) B) : fX1_isAsSeen (nI 0) Q = some (nI (spSeen (spNight N B fl) 0 (N 15 0) 0).toNat) := t_seen q2 q3 (by omega)
theorem m_seenN {N : NN} {B : BB} {S0 S : M2} {fl : Nat} (hS : MA (spPass N B fl) B S0 S) (hW : WF (spPass N B fl) B) (hN : SN N S) {st : Nat} (hst : st < 32) : fX5_isSo (nI st) S = some (nI (spSeen (spNight N B fl) st (N 15 0) 0).toNat) := by
  have := m_seen hS hW hN hst
  rw [← spSeen_pass]
  exact this
theorem tastes_L {X : M3} {S : M2} {N : NN} {B : BB} (hC : CS N B (X 2)) (hW : WF N B) (h3 : S 3 0 = nI (N 0 0)) (h4 : S 4 0 = nI (N 7 0)) (hM : MS N B (S 0)) {m : Nat} (hm : m < N 7 0) : ∀ (d t f g : Nat) (X1 : M3) (S1 : M2), t + d = 6 → d < f → d < g → (∀ q, q ≠ 3 → X1 q = X q) → ME S S1 → ∃ (a : Int32) (X' : M3) (S' : M2), (∀ kk : (Int32 × M3) → Option (Int32 × M3), fX4_tastes_L17 (nI m) kk f (nI (spBits (fun t => spSeen (spNight (va_up N 9 (va_up (N 9) m t)) B 15) 0 (N 15 0) 0) t)) (nI t) X1 = kk (a, X')) ∧ (∀ kk : (Int32 × M2) → Option (Int32 × M2), fX5_tastes_L14 (nI m) kk g (nI (spBits (fun t => spSeen (spNight (va_up N 9 (va_up (N 9) m t)) B 15) 0 (N 15 0) 0) t)) (nI t) S1 = kk (a, S')) ∧ (∀ q, q ≠ 3 → X' q = X q) ∧ ME S S'
  | 0, t, f + 1, g + 1, X1, S1, ht, hf, hg, hX, hE => by
    have e : t = 6 := by omega
    subst e
    refine ⟨nI (spBits (fun t => spSeen (spNight (va_up N 9 (va_up (N 9) m t)) B 15) 0 (N 15 0) 0) 6), X1, S1, fun kk => ?_, fun kk => ?_, hX, hE⟩
    · simp (disch := omega) only [fX4_tastes_L17, lt, jn, q_lit, q_bnd, q_cl, q_le, q_lt, q_eq, pk_mul, nI_add, q_sub, q_div, q_pos, q_neg, q_T, q_F, q_max0, q_flg1, q_flg0, q_min, q_min2, q_bit, q_some]
    · simp (disch := omega) only [fX5_tastes_L14, lt, jn, q_lit, q_bnd, q_cl, q_le, q_lt, q_eq, pk_mul, nI_add, q_sub, q_div, q_pos, q_neg, q_T, q_F, q_max0, q_flg1, q_flg0, q_min, q_min2, q_bit, q_some]
  | d + 1, t, f + 1, g + 1, X1, S1, ht, hf, hg, hX, hE => by
    have w1 := hW.1
    have x2 := hX 2 (by decide)
    obtain ⟨Q0, c1, c2⟩ := t_copy (X1 3) hC hW
    have hW2 := hW.tr1 (m := m) (v := t) (by omega)
    obtain ⟨Q2, q1, q2, q3⟩ := t_loose (fl := 15) (by omega) (c2.tr1 m t) hW2
    have qs : fX1_isAsSeen (nI 0) Q2 = some (nI (spSeen (spNight (va_up N 9 (va_up (N 9) m t)) B 15) 0 (N 15 0) 0).toNat) := t_seenN q2 q3
    obtain ⟨S2, i1, i2⟩ := m_starts hE h3 h4 hM hW
    have i3 : MA (va_up N 9 (va_up (N 9) m t)) B S (va_up S2 1 (upd (S2 1) (30 + 4 * m + 1) (nI t))) := ⟨fun q hq => by rw [q_up, if_neg hq]; exact i2.1 q hq, i2.2.1, i2.2.2.1, by
      rw [q_up, if_pos rfl]
      exact i2.2.2.2.tr1 hW hm⟩
    obtain ⟨S4, l1, l2, l3⟩ := m_nights (n := 1) (by omega) i3 hW2
    have ls : fX5_isSo (nI 0) S4 = some (nI (spSeen (spNight (va_up N 9 (va_up (N 9) m t)) B 15) 0 (N 15 0) 0).toNat) := m_seenN (N := va_up N 9 (va_up (N 9) m t)) l2 l3 (sn_of (N := N) hM (ME.ma l2)) (by omega)
    obtain ⟨a, X', S', r1, r2, r3⟩ := tastes_L hC hW h3 h4 hM hm d (t + 1) f g (va_up X1 3 Q2) S4 (by omega) (by omega) (by omega) (fun q hq => by rw [q_up, if_neg hq]; exact hX q hq) (ME.ma l2)
    rw [spBits] at r1 r2
    refine ⟨a, X', S', fun kk => ?_, fun kk => ?_, r3⟩
    · rw [← r1 kk]
      simp (disch := omega) only [fX4_tastes_L17, lt, jn, q_lit, q_bnd, q_cl, q_le, q_lt, q_eq, pk_mul, nI_add, q_sub, q_div, q_pos, q_neg, q_T, q_F, q_max0, q_flg1, q_flg0, q_min, q_min2, q_bit, q_some, x2, c1, q_up, up_up, q1, qs, q_b0, q_shl, q_or]
      cases spSeen (spNight (va_up N 9 (va_up (N 9) m t)) B 15) 0 (N 15 0) 0 <;> rfl
    · rw [← r2 kk]
      simp (disch := omega) only [fX5_tastes_L14, lt, jn, q_lit, q_bnd, q_cl, q_le, q_lt, q_eq, pk_mul, nI_add, q_sub, q_div, q_pos, q_neg, q_T, q_F, q_max0, q_flg1, q_flg0, q_min, q_min2, q_bit, q_some, i1, l1, ls, q_flag, q_orf]
theorem k_tastes {X : M3} {S : M2} (h : R X S) (x : Int32) : ∃ a X' S', fX4_tastes x X = some (a, X') ∧ fX5_tastes x S = some (a, S') ∧ R X' S' := by
  obtain ⟨N, B, hW, hn, hC, hM, e3, e4, hN, hK⟩ := h.data
  have w1 := hW.1
  have c7 := hC.1.2.2.1
  have eb : fX5_isMoth x S = fX1_hasMoth x (X 2) := m_isMoth (e4.trans c7.symm) x
  rcases t_hasMoth c7 (by omega) x with ⟨m, hm, rfl, h1⟩ | ⟨-, h1⟩
  · rw [h1] at eb
    obtain ⟨a, X', S', r1, r2, r3, r4⟩ := tastes_L hC hW e3 e4 hM hm 6 0 400 400 X S (by omega) (by omega) (by omega) (fun _ _ => rfl) (fun _ _ => rfl)
    rw [spBits] at r1 r2
    refine ⟨a, X', S', ?_, ?_, (h.xe fun k a1 _ _ => r3 k a1).me r4⟩
    · simp (disch := omega) only [fX4_tastes, lt, q_lit, q_some, h1, q_eq, q_neg, r1]
    · simp (disch := omega) only [fX5_tastes, lt, q_lit, q_some, eb, q_eq, q_neg, r2]
  · rw [h1] at eb
    refine ⟨-1, X, S, ?_, ?_, h⟩
    · simp (disch := omega) only [fX4_tastes, lt, jn, q_lit, q_bnd, q_cl, q_le, q_lt, q_eq, pk_mul, nI_add, q_sub, q_div, q_pos, q_neg, q_T, q_F, q_max0, q_flg1, q_flg0, q_min, q_min2, q_bit, q_some, h1]
    · simp (disch := omega) only [fX5_tastes, lt, jn, q_lit, q_bnd, q_cl, q_le, q_lt, q_eq, pk_mul, nI_add, q_sub, q_div, q_pos, q_neg, q_T, q_F, q_max0, q_flg1, q_flg0, q_min, q_min2, q_bit, q_some, eb]
theorem but_c : ∀ m, m < 4 → (nI 15) &&& (nI (2 ^ m) ^^^ (-nI 1)) = nI (15 - 2 ^ m) := by decide +kernel
theorem but_m : ∀ n, n ≤ 4 → ∀ m, m < n → (nI (2 ^ n - 1)) &&& (nI (2 ^ m) ^^^ (-nI 1)) = nI (2 ^ n - 1 - 2 ^ m) := by decide +kernel
theorem but_b : ∀ n, n ≤ 4 → ∀ m, m < n → ∀ i, i < n → (15 - 2 ^ m).testBit i = (2 ^ n - 1 - 2 ^ m).testBit i := by decide +kernel
theorem bought_L {X : M3} {S : M2} {N : NN} {B : BB} (hC : CS N B (X 2)) (hW : WF N B) (h3 : S 3 0 = nI (N 0 0)) (h4 : S 4 0 = nI (N 7 0)) (hM : MS N B (S 0)) : ∀ (d t f g : Nat) (X1 : M3) (S1 : M2), t + d = N 7 0 → d < f → d < g → (∀ q, q ≠ 3 → X1 q = X q) → ME S S1 → ∃ (a : Int32) (X' : M3) (S' : M2), (∀ kk : (Int32 × M3) → Option (Int32 × M3), fX4_bought_L4 kk f (nI (spBits (fun t => spSeen (spNight N B (15 - 2 ^ t)) 0 (N 15 0) 0) t)) (nI t) X1 = kk (a, X')) ∧ (∀ kk : (Int32 × M2) → Option (Int32 × M2), fX5_bought_L4 kk g (nI (spBits (fun t => spSeen (spNight N B (15 - 2 ^ t)) 0 (N 15 0) 0) t)) (nI t) S1 = kk (a, S')) ∧ (∀ q, q ≠ 3 → X' q = X q) ∧ ME S S'
  | 0, t, f + 1, g + 1, X1, S1, ht, hf, hg, hX, hE => by
    have w1 := hW.1
    have e : t = N 7 0 := by omega
    have x2 := hX 2 (by decide)
    have h4' : S1 4 0 = nI (N 7 0) := by rw [hE 4 (by decide)]; exact h4
    refine ⟨nI (spBits (fun t => spSeen (spNight N B (15 - 2 ^ t)) 0 (N 15 0) 0) t), X1, S1, fun kk => ?_, fun kk => ?_, hX, hE⟩
    · simp (disch := omega) only [fX4_bought_L4, lt, jn, q_lit, q_bnd, q_cl, q_le, q_lt, q_eq, pk_mul, nI_add, q_sub, q_div, q_pos, q_neg, q_T, q_F, q_max0, q_flg1, q_flg0, q_min, q_min2, q_bit, q_some, x2, hC.1.2.2.1]
    · simp (disch := omega) only [fX5_bought_L4, lt, jn, q_lit, q_bnd, q_cl, q_le, q_lt, q_eq, pk_mul, nI_add, q_sub, q_div, q_pos, q_neg, q_T, q_F, q_max0, q_flg1, q_flg0, q_min, q_min2, q_bit, q_some, h4']
  | d + 1, t, f + 1, g + 1, X1, S1, ht, hf, hg, hX, hE => by
    have w1 := hW.1
    have x2 := hX 2 (by decide)
    have h4' : S1 4 0 = nI (N 7 0) := by rw [hE 4 (by decide)]; exact h4
    have hC1 : CS N B (X1 2) := by rw [x2]; exact hC
    have bc := but_c t (by omega)
    have bm := but_m (N 7 0) w1.2.1 t (by omega)
    obtain ⟨Q, q1, q2, q3⟩ := t_try (X := X1) (fl := 15 - 2 ^ t) (Nat.lt_of_le_of_lt (Nat.sub_le _ _) (by omega)) hC1 hW
    have qs := t_seenN q2 q3
    obtain ⟨S2, i1, i2⟩ := m_starts hE h3 h4 hM hW
    have h4'' : S2 4 0 = nI (N 7 0) := i2.m
    have hp2 : 2 ^ N 7 0 ≤ 2 ^ 4 := Nat.pow_le_pow_right (by decide) w1.2.1
    obtain ⟨S4, l1, l2, l3⟩ := m_night (fl := 2 ^ N 7 0 - 1 - 2 ^ t) (Nat.lt_of_le_of_lt (Nat.sub_le _ _) (pw4 w1.2.1)) i2 hW
    have ls := m_seenN l2 l3 (sn_of (N := N) hM (ME.ma l2)) (st := 0) (by omega)
    have eN : spNight N B (2 ^ N 7 0 - 1 - 2 ^ t) = spNight N B (15 - 2 ^ t) := by
      unfold spNight
      rw [spLoose_congr (N 7 0) fun i hi => ?_]
      exact (but_b (N 7 0) w1.2.1 t (by omega) i hi).symm
    rw [eN] at ls
    obtain ⟨a, X', S', r1, r2, r3⟩ := bought_L hC hW h3 h4 hM d (t + 1) f g (va_up X1 3 Q) S4 (by omega) (by omega) (by omega) (fun q hq => by rw [q_up, if_neg hq]; exact hX q hq) (ME.ma l2)
    rw [spBits] at r1 r2
    refine ⟨a, X', S', fun kk => ?_, fun kk => ?_, r3⟩
    · rw [← r1 kk]
      simp (disch := omega) only [fX4_bought_L4, lt, jn, q_lit, q_bnd, q_cl, q_le, q_lt, q_eq, pk_mul, nI_add, q_sub, q_div, q_pos, q_neg, q_T, q_F, q_max0, q_flg1, q_flg0, q_min, q_min2, q_bit, q_some, x2, hC.1.2.2.1, bc, q1, q_up, qs, q_b0, q_shl, q_or]
      cases spSeen (spNight N B (15 - 2 ^ t)) 0 (N 15 0) 0 <;> rfl
    · rw [← r2 kk]
      simp (disch := omega) only [fX5_bought_L4, lt, jn, q_lit, q_bnd, q_cl, q_le, q_lt, q_eq, pk_mul, nI_add, q_sub, q_div, q_pos, q_neg, q_T, q_F, q_max0, q_flg1, q_flg0, q_min, q_min2, q_bit, q_some, h4', i1, m_every' h4'' w1.2.1, q_shl, bm, l1, ls, q_flag, q_orf]
theorem k_bought {X : M3} {S : M2} (h : R X S) : ∃ a X' S', fX4_bought X = some (a, X') ∧ fX5_bought S = some (a, S') ∧ R X' S' := by
  obtain ⟨N, B, hW, hn, hC, hM, e3, e4, hN, hK⟩ := h.data
  have w1 := hW.1
  obtain ⟨a, X', S', r1, r2, r3, r4⟩ := bought_L hC hW e3 e4 hM (N 7 0) 0 400 400 X S (by omega) (by omega) (by omega) (fun _ _ => rfl) (fun _ _ => rfl)
  rw [spBits] at r1 r2
  refine ⟨a, X', S', ?_, ?_, (h.xe fun k a1 _ _ => r3 k a1).me r4⟩
  · unfold fX4_bought
    rw [q_lit, r1]
  · unfold fX5_bought
    rw [q_lit, r2]
theorem m4_ne (j : Nat) (h : j < 2 ^ 30) : ¬ nI j = -nI 4 := by
  intro e
  have := congrArg Int32.toInt e
  rw [nI_toInt (by omega), show (-nI 4 : Int32).toInt = -4 by decide] at this
  omega
theorem pricked_L {X3 : M3} {S5 : M2} {n d0 : Nat} {N : NN} {fl : Nat} {B : BB} (hn : n ≤ 5) (c0 : X3 2 0 0 = nI n) (m3 : S5 3 0 = nI n) (hs : ∀ st, st < 32 → fX1_isAsSeen (nI st) (X3 3) = some (nI (spSeen (spNight N B fl) st d0 0).toNat)) (ms : ∀ st, st < 32 → fX5_isSo (nI st) S5 = some (nI (spSeen (spNight N B fl) st d0 0).toNat)) (w : Int32) : ∀ (d t f g c : Nat) (l : Int32), t + d = 2 ^ n → d < f → d < g → c ≤ t → (c = 0 ∧ l = -nI 4 ∨ 0 < c ∧ ∃ j, j < 32 ∧ l = nI j) → ∃ (c' l' : Int32), (∀ kk : (Int32 × Int32) → Option (Int32 × M3), fX4_pricked_L25 w X3 kk f (nI c) l (nI t) = kk (c', l')) ∧ (∀ kk : (Int32 × Int32) → Option (Int32 × M2), fX5_pricked_L26 w S5 kk g (nI c) l (nI t) = kk (c', l'))
  | 0, t, f + 1, g + 1, c, l, ht, hf, hg, hc, hl => by
    have hp2 : 2 ^ n ≤ 2 ^ 5 := Nat.pow_le_pow_right (by decide) hn
    have e : t = 2 ^ n := by omega
    subst e
    refine ⟨nI c, l, fun kk => ?_, fun kk => ?_⟩
    · simp (disch := omega) only [fX4_pricked_L25, lt, jn, q_lit, q_bnd, q_cl, q_le, q_lt, q_eq, pk_mul, nI_add, q_sub, q_div, q_pos, q_neg, q_T, q_F, q_max0, q_flg1, q_flg0, q_min, q_min2, q_bit, q_some, c0, q_shl]
    · simp (disch := omega) only [fX5_pricked_L26, lt, jn, q_lit, q_bnd, q_cl, q_le, q_lt, q_eq, pk_mul, nI_add, q_sub, q_div, q_pos, q_neg, q_T, q_F, q_max0, q_flg1, q_flg0, q_min, q_min2, q_bit, q_some, m3, q_shl]
  | d + 1, t, f + 1, g + 1, c, l, ht, hf, hg, hc, hl => by
    have hp2 : 2 ^ n ≤ 2 ^ 5 := Nat.pow_le_pow_right (by decide) hn
    have h1 := hs t (by omega)
    have h2 := ms t (by omega)
    by_cases e : spSeen (spNight N B fl) t d0 0 = true
    · rcases hl with ⟨rfl, rfl⟩ | ⟨hc0, j, hj, rfl⟩
      · obtain ⟨c', l', r1, r2⟩ := pricked_L hn c0 m3 hs ms w d (t + 1) f g 1 (nI t) (by omega) (by omega) (by omega) (by omega) (Or.inr ⟨by omega, t, by omega, rfl⟩)
        refine ⟨c', l', fun kk => ?_, fun kk => ?_⟩
        · rw [← r1 kk]
          simp (disch := omega) only [fX4_pricked_L25, lt, jn, q_lit, q_bnd, q_cl, q_le, q_lt, q_eq, pk_mul, nI_add, q_sub, q_div, q_pos, q_neg, q_T, q_F, q_max0, q_flg1, q_flg0, q_min, q_min2, q_bit, q_some, c0, q_shl, h1, e, q_b0, Bool.true_eq_false]
        · rw [← r2 kk]
          simp (disch := omega) only [fX5_pricked_L26, lt, jn, q_lit, q_bnd, q_cl, q_le, q_lt, q_eq, pk_mul, nI_add, q_sub, q_div, q_pos, q_neg, q_T, q_F, q_max0, q_flg1, q_flg0, q_min, q_min2, q_bit, q_some, m3, q_shl, h2, e, q_b0, Bool.true_eq_false]
      · obtain ⟨c', l', r1, r2⟩ := pricked_L hn c0 m3 hs ms w d (t + 1) f g (c + 1) (nI j) (by omega) (by omega) (by omega) (by omega) (Or.inr ⟨by omega, j, hj, rfl⟩)
        have hj4 := m4_ne j (by omega)
        refine ⟨c', l', fun kk => ?_, fun kk => ?_⟩
        · rw [← r1 kk]
          simp (disch := omega) only [fX4_pricked_L25, lt, jn, q_lit, q_bnd, q_cl, q_le, q_lt, q_eq, pk_mul, nI_add, q_sub, q_div, q_pos, q_neg, q_T, q_F, q_max0, q_flg1, q_flg0, q_min, q_min2, q_bit, q_some, c0, q_shl, h1, e, q_b0, Bool.true_eq_false, hj4]
        · rw [← r2 kk]
          simp (disch := omega) only [fX5_pricked_L26, lt, jn, q_lit, q_bnd, q_cl, q_le, q_lt, q_eq, pk_mul, nI_add, q_sub, q_div, q_pos, q_neg, q_T, q_F, q_max0, q_flg1, q_flg0, q_min, q_min2, q_bit, q_some, m3, q_shl, h2, e, q_b0, Bool.true_eq_false]
    · have e' : spSeen (spNight N B fl) t d0 0 = false := by simpa using e
      obtain ⟨c', l', r1, r2⟩ := pricked_L hn c0 m3 hs ms w d (t + 1) f g c l (by omega) (by omega) (by omega) (by omega) hl
      refine ⟨c', l', fun kk => ?_, fun kk => ?_⟩
      · rw [← r1 kk]
        simp (disch := omega) only [fX4_pricked_L25, lt, jn, q_lit, q_bnd, q_cl, q_le, q_lt, q_eq, pk_mul, nI_add, q_sub, q_div, q_pos, q_neg, q_T, q_F, q_max0, q_flg1, q_flg0, q_min, q_min2, q_bit, q_some, c0, q_shl, h1, e', q_b0]
      · rw [← r2 kk]
        simp (disch := omega) only [fX5_pricked_L26, lt, jn, q_lit, q_bnd, q_cl, q_le, q_lt, q_eq, pk_mul, nI_add, q_sub, q_div, q_pos, q_neg, q_T, q_F, q_max0, q_flg1, q_flg0, q_min, q_min2, q_bit, q_some, m3, q_shl, h2, e', q_b0]
theorem k_pricked {X : M3} {S : M2} (h : R X S) (w : Int32) : ∃ a X' S', fX4_pricked w X = some (a, X') ∧ fX5_pricked w S = some (a, S') ∧ R X' S' := by
  obtain ⟨N, B, hW, hn, hC, hM, e3, e4, hN, hK⟩ := h.data
  have w1 := hW.1
  rcases t_isPart w with ⟨j, j2, rfl, e6, e7⟩ | ⟨j1, e6, e7⟩
  · obtain ⟨Q, q1, q2, q3⟩ := t_try (X := X) (fl := 15) (by omega) hC hW
    obtain ⟨S1, i1, i2, -⟩ := hN.starts
    obtain ⟨S2, l1, l2, l3⟩ := m_nights (n := 1) (by omega) i2 hW
    have hp2 : 2 ^ N 0 0 ≤ 2 ^ 5 := Nat.pow_le_pow_right (by decide) w1.1
    have hsn : SN N S2 := sn_of (N := N) hM (ME.ma l2)
    have c0 : va_up X 3 Q 2 0 0 = nI (N 0 0) := hC.1.1
    obtain ⟨c', l', r1, r2⟩ := pricked_L (X3 := va_up X 3 Q) (S5 := S2) (n := N 0 0) (d0 := N 15 0) (N := N) (B := B) (fl := 15) w1.1 c0 l2.n (fun st hst => t_seen q2 q3 hst) (fun st hst => m_seenN l2 l3 hsn hst) (nI j) (2 ^ N 0 0) 0 400 400 0 (-nI 4) (by omega) (by omega) (by omega) (by omega) (Or.inl ⟨rfl, rfl⟩)
    refine ⟨if j = 0 then c' else l', va_up X 3 Q, S2, ?_, ?_, (h.xe xe3).me (ME.ma l2)⟩
    · simp (disch := omega) only [fX4_pricked, lt, q_lit, q_some, e7, q_eq, q_neg, q1, r1]
      by_cases a1 : j = 0
      · simp (disch := omega) only [a1, q_T]
      · simp (disch := omega) only [a1, q_F]
    · simp (disch := omega) only [fX5_pricked, lt, q_lit, q_some, e6, q_eq, q_neg, i1, l1, r2]
      by_cases a1 : j = 0
      · simp (disch := omega) only [a1, q_T]
      · simp (disch := omega) only [a1, q_F]
  · refine ⟨-1, X, S, ?_, ?_, h⟩
    · simp (disch := omega) only [fX4_pricked, lt, jn, q_lit, q_bnd, q_cl, q_le, q_lt, q_eq, pk_mul, nI_add, q_sub, q_div, q_pos, q_neg, q_T, q_F, q_max0, q_flg1, q_flg0, q_min, q_min2, q_bit, q_some, e7]
    · simp (disch := omega) only [fX5_pricked, lt, jn, q_lit, q_bnd, q_cl, q_le, q_lt, q_eq, pk_mul, nI_add, q_sub, q_div, q_pos, q_neg, q_T, q_F, q_max0, q_flg1, q_flg0, q_min, q_min2, q_bit, q_some, e6]
/-! a drawn number's bits 16 to 30 -/
theorem bt_l15 (i : Nat) (hi : 15 ≤ i) (h2 : i < 32) : bt (nI 32767) i = false := by
  have : ∀ i, i < 32 → 15 ≤ i → bt (nI 32767) i = false := by decide +kernel
  exact this i h2 hi
theorem of32 (x : Int32) : ∃ n, n < 2 ^ 32 ∧ x = nI n := by
  refine ⟨x.toBitVec.toNat, x.toBitVec.isLt, ?_⟩
  apply Int32.toBitVec_inj.1
  show _ = BitVec.ofNat 32 x.toBitVec.toNat
  simp
theorem draw (x : Int32) : ∃ r, r < 32768 ∧ ((x.toUInt32 >>> ((nI 16).toUInt32 &&& (nI 31).toUInt32)).toInt32) &&& nI 32767 = nI r ∧ (x >>> (nI 16 &&& nI 31)) &&& nI 32767 = nI r := by
  obtain ⟨n, hn, e⟩ := of32 ((x.toUInt32 >>> ((nI 16).toUInt32 &&& Int32.toUInt32 31)).toInt32)
  have e2 : ((x.toUInt32 >>> ((nI 16).toUInt32 &&& Int32.toUInt32 31)).toInt32) &&& nI 32767 = nI (n % 2 ^ 15) := by
    rw [e]
    exact pk_andN hn 15 (by decide)
  refine ⟨n % 2 ^ 15, Nat.mod_lt _ (by decide), e2, ?_⟩
  rw [← e2]
  apply b_ext
  intro i hi
  rw [b_and, b_and]
  by_cases e3 : 15 ≤ i
  · rw [bt_l15 i e3 hi, Bool.and_false, Bool.and_false]
  · have e4 : bt (x >>> (nI 16 &&& nI 31)) i = bt x (16 + i) := by
      have := b_sshr 16 (by decide) x hi
      rw [if_pos (by omega)] at this
      exact this
    rw [e4, b_ushr 16 (by decide) x i]
theorem q_mod {r n : Nat} (h : r < 2 ^ 31 ∧ 0 < n ∧ n < 2 ^ 31) : nI r - nI r / nI n * nI n = nI (r % n) := by
  rw [q_div h, pk_mul, q_sub (Nat.div_mul_le_self r n)]
  refine congrArg nI ?_
  have := Nat.div_add_mod r n
  rw [Nat.mul_comm] at this
  omega
theorem drift_L {X : M3} {S : M2} {n m : Nat} (hn0 : 0 < n) (hm : m ≤ 20) (c0 : X 2 0 0 = nI n) (w : Int32) : ∀ (d t f g : Nat) (s : Int32) (X1 : M3) (S1 : M2) (N : NN) (B : BB), t + d = m → d < f → d < g → (∀ q, q ≠ 3 → X1 q = X q) → N 0 0 = n → CS N B (X1 3) → WF N B → MA N B S S1 → ∃ (N' : NN) (B' : BB) (X' : M3) (S' : M2), (∀ kk : M3 → Option (Int32 × M3), fX4_drift_L51 (nI m) w kk f s (nI t) X1 = kk X') ∧ (∀ kk : M2 → Option (Int32 × M2), fX5_drift_L41 (nI m) w kk g s (nI t) S1 = kk S') ∧ (∀ q, q ≠ 3 → X' q = X q) ∧ CS N' B' (X' 3) ∧ WF N' B' ∧ MA N' B' S S'
  | 0, t, f + 1, g + 1, s, X1, S1, N, B, ht, hf, hg, hX, hn, hC, hW, hM => by
    have e : t = m := by omega
    subst e
    refine ⟨N, B, X1, S1, fun kk => ?_, fun kk => ?_, hX, hC, hW, hM⟩
    · simp (disch := omega) only [fX4_drift_L51, lt, jn, q_lit, q_bnd, q_cl, q_le, q_lt, q_eq, pk_mul, nI_add, q_sub, q_div, q_pos, q_neg, q_T, q_F, q_max0, q_flg1, q_flg0, q_min, q_min2, q_bit, q_some]
    · simp (disch := omega) only [fX5_drift_L41, lt, jn, q_lit, q_bnd, q_cl, q_le, q_lt, q_eq, pk_mul, nI_add, q_sub, q_div, q_pos, q_neg, q_T, q_F, q_max0, q_flg1, q_flg0, q_min, q_min2, q_bit, q_some]
  | d + 1, t, f + 1, g + 1, s, X1, S1, N, B, ht, hf, hg, hX, hn, hC, hW, hM => by
    have w1 := hW.1
    have x2 := hX 2 (by decide)
    have c0' : X1 2 0 0 = nI n := by rw [x2]; exact c0
    obtain ⟨r, hr, d1, d2⟩ := draw (s * nI 1103515245 + nI 12345)
    have hb : r % n < N 0 0 := by rw [hn]; exact Nat.mod_lt _ hn0
    have h3 : r % 3 < 3 := Nat.mod_lt _ (by decide)
    obtain ⟨k, i, hk, hi⟩ := hW.2.2.2.2.ex hb
    obtain ⟨Q, q1, q2, q3⟩ := t_putOnTop hC hW hk h3 hi
    obtain ⟨Q1, p1, p2, p3⟩ := t_pass q2 q3
    obtain ⟨S2, j1, j2⟩ := m_folds hM hW hk h3 hi true
    rw [if_pos rfl] at j2
    have j1' : fX5_folds (nI (r % n)) (nI (r % 3)) (nI 1) S1 = some S2 := j1
    obtain ⟨S3, l1, l2, l3⟩ := m_nights (n := 1) (by omega) j2 q3
    have mn : S1 3 0 = nI n := by rw [hM.n, hn]
    obtain ⟨N', B', X', S', r1, r2, r3⟩ := drift_L (X := X) hn0 hm c0 w d (t + 1) f g (s * nI 1103515245 + nI 12345) (va_up X1 3 Q1) S3 (spPass N (spTop (spTake B k i) (r % 3) (r % n)) 15) _ (by omega) (by omega) (by omega) (fun q hq => by rw [q_up, if_neg hq]; exact hX q hq) hn p2 p3 l2
    refine ⟨N', B', X', S', fun kk => ?_, fun kk => ?_, r3⟩
    · rw [← r1 kk]
      simp (disch := omega) only [fX4_drift_L51, lt, q_lit, q_le, q_eq, q_neg, q_some, q_T, nI_add, d1, c0', q_mod, q_up, q1, up_up, p1]
    · rw [← r2 kk]
      simp (disch := omega) only [fX5_drift_L41, lt, q_lit, q_le, q_eq, q_neg, q_some, nI_add, d2, mn, q_mod, j1', l1]
theorem k_drift {X : M3} {S : M2} (h : R X S) (s x w : Int32) : ∃ a X' S', fX4_drift s x w X = some (a, X') ∧ fX5_drift s x w S = some (a, S') ∧ R X' S' := by
  obtain ⟨N, B, hW, hn, hC, hM, e3, e4, hN, hK⟩ := h.data
  have w1 := hW.1
  have c0 := hC.1.1
  rcases q_within x (a := 1) (b := 20) (by omega) with ⟨n, n1, n2, rfl⟩ | ⟨-, n2⟩
  · rcases t_isPart w with ⟨j, j2, rfl, e6, e7⟩ | ⟨j1, e6, e7⟩
    · by_cases hz : N 0 0 = 0
      · refine ⟨-2, X, S, ?_, ?_, h⟩
        · simp (disch := omega) only [fX4_drift, q_win, lt, jn, q_lit, q_bnd, q_cl, q_le, q_lt, q_eq, pk_mul, nI_add, q_sub, q_div, q_pos, q_neg, q_T, q_F, q_max0, q_flg1, q_flg0, q_min, q_min2, q_bit, q_some, e7, c0, hz]
        · simp (disch := omega) only [fX5_drift, q_win, lt, jn, q_lit, q_bnd, q_cl, q_le, q_lt, q_eq, pk_mul, nI_add, q_sub, q_div, q_pos, q_neg, q_T, q_F, q_max0, q_flg1, q_flg0, q_min, q_min2, q_bit, q_some, q_in_0_127, q_in_0_1, q_in_0_2, q_in_0_3, q_in_0_4, q_in_0_5, q_in_0_9, q_in_0_10, q_in_0_20, q_in_1_20, q_in_48_57, q_in_97_122, q_inB, e6, e3, hz]
      · obtain ⟨Q0, c1, c2⟩ := t_copy (X 3) hC hW
        obtain ⟨S1, i1, i2, -⟩ := hN.starts
        obtain ⟨N', B', X', S', r1, r2, r3, r4, r5, r6⟩ := drift_L (X := X) (S := S) (n := N 0 0) (m := n) (by omega) n2 c0 (nI j) n 0 400 400 s (va_up X 3 Q0) S1 N B (by omega) (by omega) (by omega) (fun q hq => by rw [q_up, if_neg hq]) rfl c2 hW i2
        have hR := (h.xe fun k a1 _ _ => r3 k a1).me (ME.ma r6)
        rcases (by omega : j = 0 ∨ j = 1) with rfl | rfl
        · refine ⟨nI (spAll N' B'), X', S', ?_, ?_, hR⟩
          · simp (disch := omega) only [fX4_drift, q_win, lt, jn, q_lit, q_bnd, q_cl, q_le, q_lt, q_eq, pk_mul, nI_add, q_sub, q_div, q_pos, q_neg, q_T, q_F, q_max0, q_flg1, q_flg0, q_min, q_min2, q_bit, q_some, e7, c0, c1, r1, t_dutyAll r4 r5]
          · simp (disch := omega) only [fX5_drift, q_win, lt, jn, q_lit, q_bnd, q_cl, q_le, q_lt, q_eq, pk_mul, nI_add, q_sub, q_div, q_pos, q_neg, q_T, q_F, q_max0, q_flg1, q_flg0, q_min, q_min2, q_bit, q_some, q_in_0_127, q_in_0_1, q_in_0_2, q_in_0_3, q_in_0_4, q_in_0_5, q_in_0_9, q_in_0_10, q_in_0_20, q_in_1_20, q_in_48_57, q_in_97_122, q_inB, e6, e3, i1, r2, m_dutyAll r6 r5]
        · refine ⟨nI (spSum (N' 3) (N' 0 0)), X', S', ?_, ?_, hR⟩
          · simp (disch := omega) only [fX4_drift, q_win, lt, jn, q_lit, q_bnd, q_cl, q_le, q_lt, q_eq, pk_mul, nI_add, q_sub, q_div, q_pos, q_neg, q_T, q_F, q_max0, q_flg1, q_flg0, q_min, q_min2, q_bit, q_some, e7, c0, c1, r1, t_sum r4 r5]
          · simp (disch := omega) only [fX5_drift, q_win, lt, jn, q_lit, q_bnd, q_cl, q_le, q_lt, q_eq, pk_mul, nI_add, q_sub, q_div, q_pos, q_neg, q_T, q_F, q_max0, q_flg1, q_flg0, q_min, q_min2, q_bit, q_some, q_in_0_127, q_in_0_1, q_in_0_2, q_in_0_3, q_in_0_4, q_in_0_5, q_in_0_9, q_in_0_10, q_in_0_20, q_in_1_20, q_in_48_57, q_in_97_122, q_inB, e6, e3, i1, r2, m_sum r6 r5]
    · refine ⟨-1, X, S, ?_, ?_, h⟩
      · simp (disch := omega) only [fX4_drift, q_win, lt, jn, q_lit, q_bnd, q_cl, q_le, q_lt, q_eq, pk_mul, nI_add, q_sub, q_div, q_pos, q_neg, q_T, q_F, q_max0, q_flg1, q_flg0, q_min, q_min2, q_bit, q_some, e7]
      · simp (disch := omega) only [fX5_drift, q_win, lt, jn, q_lit, q_bnd, q_cl, q_le, q_lt, q_eq, pk_mul, nI_add, q_sub, q_div, q_pos, q_neg, q_T, q_F, q_max0, q_flg1, q_flg0, q_min, q_min2, q_bit, q_some, q_in_0_127, q_in_0_1, q_in_0_2, q_in_0_3, q_in_0_4, q_in_0_5, q_in_0_9, q_in_0_10, q_in_0_20, q_in_1_20, q_in_48_57, q_in_97_122, q_inB, e6]
  · refine ⟨-1, X, S, ?_, ?_, h⟩
    · simp (disch := omega) only [fX4_drift, lt, jn, q_lit, q_bnd, q_cl, q_le, q_lt, q_eq, pk_mul, nI_add, q_sub, q_div, q_pos, q_neg, q_T, q_F, q_max0, q_flg1, q_flg0, q_min, q_min2, q_bit, q_some, n2]
    · simp (disch := omega) only [fX5_drift, lt, jn, q_lit, q_bnd, q_cl, q_le, q_lt, q_eq, pk_mul, nI_add, q_sub, q_div, q_pos, q_neg, q_T, q_F, q_max0, q_flg1, q_flg0, q_min, q_min2, q_bit, q_some, q_in_0_127, q_in_0_1, q_in_0_2, q_in_0_3, q_in_0_4, q_in_0_5, q_in_0_9, q_in_0_10, q_in_0_20, q_in_1_20, q_in_48_57, q_in_97_122, q_inB, n2]
end
section
/-! images -/
theorem m_copies_L {to fr : Nat} (h : to + 62 ≤ fr ∨ fr + 62 ≤ to) (h1 : to ≤ 124) (h2 : fr ≤ 124) : ∀ (d j f : Nat) (S : M2), j + d = 62 → d < f → ∃ S', (∀ kk : M2 → Option M2, fX5_copies_L2 (nI to) (nI fr) kk f (nI j) S = kk S') ∧ (∀ q, q ≠ 0 → S' q = S q) ∧ ∀ x, S' 0 x = if to + j ≤ x ∧ x < to + 62 then S 0 (x - to + fr) else S 0 x
  | 0, j, f + 1, S, hd, hf => by
    refine ⟨S, fun kk => ?_, fun _ _ => rfl, fun x => ?_⟩
    · simp (disch := omega) only [fX5_copies_L2, lt, jn, q_lit, q_bnd, q_cl, q_le, q_lt, q_eq, pk_mul, nI_add, q_sub, q_div, q_pos, q_neg, q_T, q_F, q_max0, q_flg1, q_flg0, q_min, q_min2, q_bit, q_some]
    · rw [if_neg (by omega)]
  | d + 1, j, f + 1, S, hd, hf => by
    obtain ⟨S', i1, i2, i3⟩ := m_copies_L h h1 h2 d (j + 1) f (va_up S 0 (upd (S 0) (to + j) (S 0 (fr + j)))) (by omega) (by omega)
    refine ⟨S', fun kk => ?_, fun q hq => ?_, fun x => ?_⟩
    · simp (disch := omega) only [fX5_copies_L2, lt, jn, q_lit, q_bnd, q_cl, q_le, q_lt, q_eq, pk_mul, nI_add, q_sub, q_div, q_pos, q_neg, q_T, q_F, q_max0, q_flg1, q_flg0, q_min, q_min2, q_bit, q_some, i1]
    · rw [i2 q hq, q_up, if_neg hq]
    · rw [i3]
      show (if to + (j + 1) ≤ x ∧ x < to + 62 then upd (S 0) (to + j) (S 0 (fr + j)) (x - to + fr) else upd (S 0) (to + j) (S 0 (fr + j)) x) = _
      rw [q_ud, q_ud]
      by_cases e1 : x = to + j
      · subst e1
        rw [if_neg (by omega), if_pos rfl, if_pos (by omega), show to + j - to + fr = fr + j by omega]
      · by_cases e2 : to + j ≤ x ∧ x < to + 62
        · rw [if_pos (by omega), if_neg (by omega), if_pos e2]
        · rw [if_neg (by omega), if_neg e1, if_neg e2]
theorem m_copies {to fr : Nat} (h : to + 62 ≤ fr ∨ fr + 62 ≤ to) (h1 : to ≤ 124) (h2 : fr ≤ 124) (S : M2) : ∃ S', fX5_copies (nI to) (nI fr) S = some S' ∧ (∀ q, q ≠ 0 → S' q = S q) ∧ ∀ x, S' 0 x = if to ≤ x ∧ x < to + 62 then S 0 (x - to + fr) else S 0 x := by
  obtain ⟨S', i1, i2, i3⟩ := m_copies_L h h1 h2 62 0 400 S (by omega) (by omega)
  exact ⟨S', i1 _, i2, i3⟩
theorem RK.keep {N : NN} {B : BB} {kept : Int32} {im im' : Nat → M2} {st st' isk : Nat → Int32} {k : Nat} (h : RK N kept im st isk) (hk : k < 2) (hW : WF N B) (hn : N 14 0 ≤ 999) (hC : CS N B (im' k)) (hM : MS N B (fun x => st' (62 * (k + 1) + x))) (i2 : ∀ j, j < 2 → j ≠ k → im' j = im j) (hst : ∀ j, j < 2 → j ≠ k → ∀ x, x < 62 → st' (62 * (j + 1) + x) = st (62 * (j + 1) + x)) : RK N (kept ||| (nI 1 <<< (nI k &&& nI 31))) im' st' (upd isk k (nI 1)) := by
  obtain ⟨kp, k1, k2, k3⟩ := h
  have h2k : 2 ^ k < 2 ^ 2 := Nat.pow_lt_pow_right (by decide) hk
  refine ⟨kp ||| 2 ^ k, Nat.or_lt_two_pow (n := 2) k1 h2k, ?_, fun j hj => ?_⟩
  · rw [k2, q_shl (by omega), q_or]
  · rw [Nat.testBit_or, Nat.testBit_two_pow, q_ud]
    by_cases e : j = k
    · subst e
      rw [if_pos rfl, decide_eq_true rfl, Bool.or_true]
      exact ⟨rfl, fun _ => ⟨N, B, hW, hn, rfl, rfl, hC, hM⟩⟩
    · rw [if_neg e, decide_eq_false (Ne.symm e), Bool.or_false]
      refine ⟨(k3 j hj).1, fun hb => ?_⟩
      obtain ⟨N2, B2, a1, a2, a3, a4, a5, a6⟩ := (k3 j hj).2 hb
      refine ⟨N2, B2, a1, a2, a3, a4, ?_, a6.ext a1 (hst j hj e)⟩
      rw [i2 j hj e]
      exact a5
theorem k_keep {X : M3} {S : M2} (h : R X S) (x : Int32) : ∃ a X' S', fX4_keep x X = some (a, X') ∧ fX5_keep x S = some (a, S') ∧ R X' S' := by
  obtain ⟨N, B, hW, hn, hC, hM, e3, e4, hN, hK⟩ := h.data
  obtain ⟨-, h2, h3, h4⟩ := id h
  obtain ⟨kp, k1, k2, k3⟩ := id hK
  rcases q_within x (a := 0) (b := 1) (by omega) with ⟨k, -, hk, rfl⟩ | ⟨-, j2⟩
  · obtain ⟨Q, c1, c2⟩ := t_copy (X (4 + k)) hC hW
    have hk2 : k < 2 := by omega
    have s2 := (k3 k hk2).1
    obtain ⟨S', i1, i2, i3⟩ := m_copies (to := 62 * (k + 1)) (fr := 0) (Or.inr (by omega)) (by omega) (by omega) (va_up S 2 (upd (S 2) k (nI 1)))
    have i3' : ∀ y, S' 0 y = if 62 * (k + 1) ≤ y ∧ y < 62 * (k + 1) + 62 then S 0 (y - 62 * (k + 1) + 0) else S 0 y := i3
    refine ⟨nI (kp.testBit k).toNat, va_up (va_up X (4 + k) Q) 0 (va_up (X 0) 6 (fun _ => X 0 6 0 ||| (nI 1 <<< (nI k &&& nI 31)))), S', ?_, ?_, ?_⟩
    · have e0 : ∀ v, (va_up X (4 + k) v) 0 = X 0 := fun v => by rw [q_up, if_neg (by omega)]
      unfold fX4_keep
      rw [k2]
      simp (disch := omega) only [lt, q_lit, q_some, q_bnd, q_cl, q_eq, q_neg, q_win, q_bit, c1, e0, k2]
    · simp (disch := omega) only [fX5_keep, lt, q_lit, q_some, q_bnd, q_cl, q_eq, q_neg, q_win, q_in_0_127, q_in_0_1, q_in_0_2, q_in_0_3, q_in_0_4, q_in_0_5, q_in_0_9, q_in_0_10, q_in_0_20, q_in_1_20, q_in_48_57, q_in_97_122, q_inB, s2, q_flag, pk_mul, nI_add, i1]
    · have m0 : ∀ y, y < 62 → S' 0 y = S 0 y := fun y hy => by rw [i3', if_neg (by omega)]
      refine ⟨⟨N, B, ⟨hW, hn, ?_, hM.ext hW m0, ?_, ?_⟩, ?_⟩, ?_, ?_, ?_⟩
      · rw [q_up, if_neg (by omega), q_up, if_neg (by omega)]
        exact hC
      · rw [i2 3 (by decide)]
        exact e3
      · rw [i2 4 (by decide)]
        exact e4
      · rw [i2 2 (by decide)]
        refine hK.keep (B := B) hk2 hW hn ?_ ?_ (fun j hj hne => ?_) (fun j hj hne y hy => ?_)
        · rw [im2_x (X := va_up (va_up X (4 + k) Q) 0 _) hk2, q_up, if_neg (by omega), q_up, if_pos rfl]
          exact c2
        · refine hM.ext hW fun y hy => ?_
          show S' 0 (62 * (k + 1) + y) = S 0 y
          rw [i3', if_pos (by omega), Nat.add_sub_cancel_left, Nat.add_zero]
        · rw [im2_x (X := va_up (va_up X (4 + k) Q) 0 _) hj, im2_x hj, q_up, if_neg (by omega), q_up, if_neg (by omega)]
        · rw [i3', if_neg (by omega)]
      · rw [i2 11 (by decide), i2 12 (by decide), i2 17 (by decide), q_up, if_neg (by omega), q_up, if_neg (by omega)]
        exact h2
      · rw [i2 20 (by decide), i2 21 (by decide), i2 22 (by decide)]
        have f : ∀ q, 6 ≤ q → va_up (va_up X (4 + k) Q) 0 (va_up (X 0) 6 (fun _ => X 0 6 0 ||| (nI 1 <<< (nI k &&& nI 31)))) q = X q := fun q hq => by rw [q_up, if_neg (by omega), q_up, if_neg (by omega)]
        rw [f 6 (by decide), f 7 (by decide), f 8 (by decide), f 9 (by decide)]
        exact h3
      · rw [i2 23 (by decide)]
        exact h4
  · refine ⟨-1, X, S, ?_, ?_, h⟩
    · simp (disch := omega) only [fX4_keep, lt, jn, q_lit, q_bnd, q_cl, q_le, q_lt, q_eq, pk_mul, nI_add, q_sub, q_div, q_pos, q_neg, q_T, q_F, q_max0, q_flg1, q_flg0, q_min, q_min2, q_bit, q_some, j2]
    · simp (disch := omega) only [fX5_keep, lt, jn, q_lit, q_bnd, q_cl, q_le, q_lt, q_eq, pk_mul, nI_add, q_sub, q_div, q_pos, q_neg, q_T, q_F, q_max0, q_flg1, q_flg0, q_min, q_min2, q_bit, q_some, q_in_0_127, q_in_0_1, q_in_0_2, q_in_0_3, q_in_0_4, q_in_0_5, q_in_0_9, q_in_0_10, q_in_0_20, q_in_1_20, q_in_48_57, q_in_97_122, q_inB, j2]
theorem k_back {X : M3} {S : M2} (h : R X S) (x : Int32) : ∃ a X' S', fX4_back x X = some (a, X') ∧ fX5_back x S = some (a, S') ∧ R X' S' := by
  obtain ⟨N, B, hW, hn, hC, hM, e3, e4, hN, hK⟩ := h.data
  obtain ⟨kp, k1, k2, k3⟩ := id hK
  rcases q_within x (a := 0) (b := 1) (by omega) with ⟨k, -, hk, rfl⟩ | ⟨-, j2⟩
  · have hk2 : k < 2 := by omega
    obtain ⟨s2, s3⟩ := k3 k hk2
    by_cases e : kp.testBit k = true
    · obtain ⟨N', B', a1, a2, a3, a4, a5, a6⟩ := s3 e
      rw [im2_x hk2] at a5
      obtain ⟨Q, c1, c2⟩ := t_copy (X 2) a5 a1
      obtain ⟨S', i1, i2, i3⟩ := m_copies (to := 0) (fr := 62 * (k + 1)) (Or.inl (by omega)) (by omega) (by omega) S
      have m0 : ∀ y, y < 62 → S' 0 y = S 0 (62 * (k + 1) + y) := fun y hy => by
        rw [i3, if_pos (by omega), Nat.sub_zero, Nat.add_comm]
      have hM' : MS N' B' (S' 0) := a6.ext a1 m0
      have m48 := hM'.1.2.2.1
      have q14 := c2.1.2.2.2.2.2.1
      refine ⟨nI (N' 14 0), va_up X 2 Q, S', ?_, ?_, h.now hK e3 e4 a3 a4 a1 a2 c2 hM' (fun q h0 _ => i2 q h0) (fun y hy => by rw [i3, if_neg (by omega)])⟩
      · simp (disch := omega) only [fX4_back, lt, q_lit, q_some, q_bnd, q_cl, q_eq, q_neg, q_win, k2, q_bit, e, q_b0, Bool.true_eq_false, q_F, c1, q_up, q_T, q14]
      · simp (disch := omega) only [fX5_back, lt, q_lit, q_some, q_bnd, q_cl, q_eq, q_neg, q_win, q_in_0_127, q_in_0_1, q_in_0_2, q_in_0_3, q_in_0_4, q_in_0_5, q_in_0_9, q_in_0_10, q_in_0_20, q_in_1_20, q_in_48_57, q_in_97_122, q_inB, s2, e, q_b0, Bool.true_eq_false, q_F, pk_mul, nI_add, i1, m48]
    · have e' : kp.testBit k = false := by simpa using e
      refine ⟨-2, X, S, ?_, ?_, h⟩
      · simp (disch := omega) only [fX4_back, lt, q_lit, q_some, q_bnd, q_cl, q_eq, q_neg, q_win, k2, q_bit, e', q_b0, q_T]
      · simp (disch := omega) only [fX5_back, lt, q_lit, q_some, q_bnd, q_cl, q_eq, q_neg, q_win, q_in_0_127, q_in_0_1, q_in_0_2, q_in_0_3, q_in_0_4, q_in_0_5, q_in_0_9, q_in_0_10, q_in_0_20, q_in_1_20, q_in_48_57, q_in_97_122, q_inB, s2, e', q_b0, q_T]
  · refine ⟨-1, X, S, ?_, ?_, h⟩
    · simp (disch := omega) only [fX4_back, lt, jn, q_lit, q_bnd, q_cl, q_le, q_lt, q_eq, pk_mul, nI_add, q_sub, q_div, q_pos, q_neg, q_T, q_F, q_max0, q_flg1, q_flg0, q_min, q_min2, q_bit, q_some, j2]
    · simp (disch := omega) only [fX5_back, lt, jn, q_lit, q_bnd, q_cl, q_le, q_lt, q_eq, pk_mul, nI_add, q_sub, q_div, q_pos, q_neg, q_T, q_F, q_max0, q_flg1, q_flg0, q_min, q_min2, q_bit, q_some, q_in_0_127, q_in_0_1, q_in_0_2, q_in_0_3, q_in_0_4, q_in_0_5, q_in_0_9, q_in_0_10, q_in_0_20, q_in_1_20, q_in_48_57, q_in_97_122, q_inB, j2]
/-! sheets -/
theorem R.sheet {X : M3} {S S' : M2} {k : Nat} {Q : M2} (h : R X S) (hk : k < 4) (hs : ∀ q, q ≠ 20 → q ≠ 21 → q ≠ 22 → S' q = S q) (ho : ∀ j, j < 4 → j ≠ k → S' 20 j = S 20 j ∧ S' 21 j = S 21 j ∧ ∀ i, i < 40 → S' 22 (40 * j + i) = S 22 (40 * j + i)) (hn : (Q 0 0 = nI 1 ∧ ∃ l n : Nat, l < 3 ∧ n ≤ 40 ∧ Q 1 0 = nI l ∧ S' 20 k = nI l ∧ Q 2 0 = nI n ∧ S' 21 k = nI n ∧ ∀ i, i < n → Q 3 i = S' 22 (40 * k + i))) : R (va_up X (6 + k) Q) S' := by
  obtain ⟨h1, h2, h3, h4⟩ := h
  have f : ∀ q, q < 6 → va_up X (6 + k) Q q = X q := fun q hq => by rw [q_up, if_neg (by omega)]
  unfold R
  rw [f 0 (by decide), f 1 (by decide), f 2 (by decide), f 4 (by decide), f 5 (by decide), hs 0 (by decide) (by decide) (by decide), hs 2 (by decide) (by decide) (by decide), hs 3 (by decide) (by decide) (by decide), hs 4 (by decide) (by decide) (by decide), hs 11 (by decide) (by decide) (by decide), hs 12 (by decide) (by decide) (by decide), hs 17 (by decide) (by decide) (by decide), hs 23 (by decide) (by decide) (by decide)]
  refine ⟨h1, h2, fun j hj => ?_, h4⟩
  rw [sh4_x (X := va_up X (6 + k) Q) hj, q_up]
  by_cases e : j = k
  · subst e
    rw [if_pos rfl]
    exact Or.inr hn
  · obtain ⟨o1, o2, o3⟩ := ho j hj e
    have := h3 j hj
    rw [sh4_x hj] at this
    rw [if_neg (by omega), o1, o2]
    rcases this with a | ⟨a, l, n, b1, b2, b3, b4, b5, b6, b7⟩
    · exact Or.inl a
    · exact Or.inr ⟨a, l, n, b1, b2, b3, b4, b5, b6, fun i hi => by rw [o3 i (by omega)]; exact b7 i hi⟩
theorem t_new_L : ∀ (d j f : Nat) (S : M2), j + d = 40 → d < f → ∃ S', (∀ kk : M2 → Option M2, fX2_makeNew_L17 kk f (nI j) S = kk S') ∧ (∀ q, q ≠ 3 → S' q = S q) ∧ ∀ x, S' 3 x = if j ≤ x ∧ x < 40 then nI 0 else S 3 x
  | 0, j, f + 1, S, hd, hf => by
    refine ⟨S, fun kk => ?_, fun _ _ => rfl, fun x => ?_⟩
    · simp (disch := omega) only [fX2_makeNew_L17, lt, jn, q_lit, q_bnd, q_cl, q_le, q_lt, q_eq, pk_mul, nI_add, q_sub, q_div, q_pos, q_neg, q_T, q_F, q_max0, q_flg1, q_flg0, q_min, q_min2, q_bit, q_some]
    · rw [if_neg (by omega)]
  | d + 1, j, f + 1, S, hd, hf => by
    obtain ⟨S', i1, i2, i3⟩ := t_new_L d (j + 1) f (va_up S 3 (upd (S 3) j (nI 0))) (by omega) (by omega)
    refine ⟨S', fun kk => ?_, fun q hq => ?_, fun x => ?_⟩
    · simp (disch := omega) only [fX2_makeNew_L17, lt, jn, q_lit, q_bnd, q_cl, q_le, q_lt, q_eq, pk_mul, nI_add, q_sub, q_div, q_pos, q_neg, q_T, q_F, q_max0, q_flg1, q_flg0, q_min, q_min2, q_bit, q_some, i1]
    · rw [i2 q hq, q_up, if_neg hq]
    · rw [i3]
      show (if j + 1 ≤ x ∧ x < 40 then nI 0 else upd (S 3) j (nI 0) x) = _
      rw [q_ud]
      by_cases e1 : x = j
      · subst e1
        rw [if_neg (by omega), if_pos rfl, if_pos (by omega)]
      · by_cases e2 : j ≤ x ∧ x < 40
        · rw [if_pos (by omega), if_pos e2]
        · rw [if_neg (by omega), if_neg e1, if_neg e2]
theorem m_new_L {k : Nat} (hk : k < 4) : ∀ (d j f : Nat) (S : M2), j + d = 40 → d < f → ∃ S', (∀ kk : M2 → Option (Int32 × M2), fX5_sheet_L40 (nI k) kk f (nI j) S = kk S') ∧ (∀ q, q ≠ 22 → S' q = S q) ∧ ∀ x, S' 22 x = if 40 * k + j ≤ x ∧ x < 40 * k + 40 then nI 0 else S 22 x
  | 0, j, f + 1, S, hd, hf => by
    refine ⟨S, fun kk => ?_, fun _ _ => rfl, fun x => ?_⟩
    · simp (disch := omega) only [fX5_sheet_L40, lt, jn, q_lit, q_bnd, q_cl, q_le, q_lt, q_eq, pk_mul, nI_add, q_sub, q_div, q_pos, q_neg, q_T, q_F, q_max0, q_flg1, q_flg0, q_min, q_min2, q_bit, q_some]
    · rw [if_neg (by omega)]
  | d + 1, j, f + 1, S, hd, hf => by
    obtain ⟨S', i1, i2, i3⟩ := m_new_L hk d (j + 1) f (va_up S 22 (upd (S 22) (40 * k + j) (nI 0))) (by omega) (by omega)
    refine ⟨S', fun kk => ?_, fun q hq => ?_, fun x => ?_⟩
    · simp (disch := omega) only [fX5_sheet_L40, lt, jn, q_lit, q_bnd, q_cl, q_le, q_lt, q_eq, pk_mul, nI_add, q_sub, q_div, q_pos, q_neg, q_T, q_F, q_max0, q_flg1, q_flg0, q_min, q_min2, q_bit, q_some, i1]
    · rw [i2 q hq, q_up, if_neg hq]
    · rw [i3]
      show (if 40 * k + (j + 1) ≤ x ∧ x < 40 * k + 40 then nI 0 else upd (S 22) (40 * k + j) (nI 0) x) = _
      rw [q_ud]
      by_cases e1 : x = 40 * k + j
      · subst e1
        rw [if_neg (by omega), if_pos rfl, if_pos (by omega)]
      · by_cases e2 : 40 * k + j ≤ x ∧ x < 40 * k + 40
        · rw [if_pos (by omega), if_pos e2]
        · rw [if_neg (by omega), if_neg e1, if_neg e2]
theorem q_in_40 {x : Int32} (h1 : x ≤ nI 40) (h2 : nI 0 ≤ x) : ∃ j, j ≤ 40 ∧ x = nI j := by
  rcases pk_ix x (n := 41) (by omega) with h | h | ⟨j, hj, rfl⟩
  · rw [Int32.lt_iff_toInt_lt] at h
    rw [Int32.le_iff_toInt_le] at h2
    have e1 : (0 : Int32).toInt = 0 := by decide
    have e2 : (nI 0).toInt = 0 := by decide
    omega
  · rw [Int32.le_iff_toInt_le] at h h1
    rw [nI_toInt (by decide)] at h h1
    omega
  · exact ⟨j, by omega, rfl⟩
theorem q_sheet (x : Int32) : (∃ k, k < 4 ∧ x = nI k ∧ fX4_isSheet x = some (nI 1)) ∨ ((∀ k, k < 4 → x ≠ nI k) ∧ fX4_isSheet x = some (nI 0) ∧ ∀ y, fX5_isSheet x y = some (nI 0)) := by
  unfold fX4_isSheet fX5_isSheet
  rcases q_within x (a := 0) (b := 3) (by omega) with ⟨j, h1, h2, rfl⟩ | ⟨h1, h2⟩
  · refine Or.inl ⟨j, by omega, rfl, ?_⟩
    rw [q_lit, q_lit, q_win (by omega)]
    rfl
  · refine Or.inr ⟨fun j h3 => h1 j (by omega) (by omega), ?_, fun y => ?_⟩
    · rw [q_lit, q_lit, h2]
      rfl
    · rw [q_in_0_3, h2]
      rfl
theorem q_lane {k : Nat} (hk : k < 4) (y : Int32) : (∃ l, l < 3 ∧ y = nI l ∧ fX4_isLane y = some (nI 1) ∧ fX5_isSheet (nI k) y = some (nI 1)) ∨ ((∀ l, l < 3 → y ≠ nI l) ∧ fX4_isLane y = some (nI 0) ∧ fX5_isSheet (nI k) y = some (nI 0)) := by
  unfold fX4_isLane fX5_isSheet
  rw [q_in_0_3, q_win (by omega), q_some, if_neg (by decide : ¬ nI 1 = 0), q_in_0_2]
  rcases q_within y (a := 0) (b := 2) (by omega) with ⟨j, h1, h2, rfl⟩ | ⟨h1, h2⟩
  · refine Or.inl ⟨j, by omega, rfl, ?_, ?_⟩
    · rw [q_lit, q_lit, q_win (by omega)]
      rfl
    · rw [q_win (by omega)]
      rfl
  · refine Or.inr ⟨fun j h3 => h1 j (by omega) (by omega), ?_, ?_⟩
    · rw [q_lit, q_lit, h2]
      rfl
    · rw [h2]
      rfl
end
section
theorem q_ltn {α β : Type} (e : α) (f : α → β) : lt e f = f e := Eq.trans rfl rfl
theorem t_makeNew (l n : Nat) (T : M2) : ∃ Q, fX2_makeNew (nI l) (nI n) T = some Q ∧ Q 0 0 = nI 1 ∧ Q 1 0 = nI l ∧ Q 2 0 = nI n ∧ ∀ i, i < 40 → Q 3 i = nI 0 := by
  obtain ⟨Q, i1, i2, i3⟩ := t_new_L 40 0 400 (va_up (va_up (va_up T 0 (fun _ => 1)) 1 (fun _ => nI l)) 2 (fun _ => nI n)) (by omega) (by omega)
  have q0 : Q 0 0 = nI 1 := by rw [i2 0 (by decide)]; rfl
  have q1 : Q 1 0 = nI l := by rw [i2 1 (by decide)]; rfl
  have q2 : Q 2 0 = nI n := by rw [i2 2 (by decide)]; rfl
  refine ⟨Q, ?_, q0, q1, q2, fun i hi => by rw [i3, if_pos (by omega)]⟩
  unfold fX2_makeNew
  rw [q_ltn, q_ltn, q_ltn]
  exact i1 _
theorem k_sheet {X : M3} {S : M2} (h : R X S) (x y z : Int32) : ∃ a X' S', fX4_sheet x y z X = some (a, X') ∧ fX5_sheet x y z S = some (a, S') ∧ R X' S' := by
  rcases q_sheet x with ⟨k, hk, rfl, h1⟩ | ⟨-, h1, h2⟩
  · rcases q_lane hk y with ⟨l, hl, rfl, h3, h4⟩ | ⟨-, h3, h4⟩
    · by_cases c1 : z ≤ nI 40
      · by_cases c2 : nI 0 ≤ z
        · obtain ⟨n, hn, rfl⟩ := q_in_40 c1 c2
          obtain ⟨Q, i1, q0, q1, q2, i3⟩ := t_makeNew l n (X (6 + k))
          obtain ⟨S', j1, j2, j3⟩ := m_new_L hk 40 0 400 (va_up (va_up S 20 (upd (S 20) k (nI l))) 21 (upd (S 21) k (nI n))) (by omega) (by omega)
          have s20 : S' 20 = upd (S 20) k (nI l) := j2 20 (by decide)
          have s21 : S' 21 = upd (S 21) k (nI n) := j2 21 (by decide)
          have j3' : ∀ x, S' 22 x = if 40 * k ≤ x ∧ x < 40 * k + 40 then nI 0 else S 22 x := j3
          refine ⟨1, va_up X (6 + k) Q, S', ?_, ?_, h.sheet hk (fun q a1 a2 a3 => ?_) (fun j hj hne => ⟨?_, ?_, fun i hi => ?_⟩) ⟨q0, l, n, hl, hn, q1, ?_, q2, ?_, fun i hi => ?_⟩⟩
          · simp (disch := omega) only [fX4_sheet, lt, jn, q_lit, q_bnd, q_cl, q_le, q_lt, q_eq, pk_mul, nI_add, q_sub, q_div, q_pos, q_neg, q_T, q_F, q_max0, q_flg1, q_flg0, q_min, q_min2, q_bit, q_some, h1, h3, i1]
          · have e1 : va_up S 20 (upd (S 20) k (nI l)) 21 = S 21 := rfl
            simp (disch := omega) only [fX5_sheet, lt, jn, q_lit, q_bnd, q_cl, q_le, q_lt, q_eq, pk_mul, nI_add, q_sub, q_div, q_pos, q_neg, q_T, q_F, q_max0, q_flg1, q_flg0, q_min, q_min2, q_bit, q_some, h4, e1, j1]
          · rw [j2 q a3, q_up, if_neg a2, q_up, if_neg a1]
          · rw [s20, q_ud, if_neg hne]
          · rw [s21, q_ud, if_neg hne]
          · rw [j3', if_neg (by omega)]
          · rw [s20, q_ud, if_pos rfl]
          · rw [s21, q_ud, if_pos rfl]
          · rw [i3 i (by omega), j3', if_pos (by omega)]
        · refine ⟨-14, X, S, ?_, ?_, h⟩
          · simp (disch := omega) only [fX4_sheet, lt, jn, q_lit, q_bnd, q_cl, q_le, q_lt, q_eq, pk_mul, nI_add, q_sub, q_div, q_pos, q_neg, q_T, q_F, q_max0, q_flg1, q_flg0, q_min, q_min2, q_bit, q_some, h1, h3, c1, c2]
          · simp (disch := omega) only [fX5_sheet, lt, jn, q_lit, q_bnd, q_cl, q_le, q_lt, q_eq, pk_mul, nI_add, q_sub, q_div, q_pos, q_neg, q_T, q_F, q_max0, q_flg1, q_flg0, q_min, q_min2, q_bit, q_some, h4, c1, c2]
      · refine ⟨-1, X, S, ?_, ?_, h⟩
        · simp (disch := omega) only [fX4_sheet, lt, jn, q_lit, q_bnd, q_cl, q_le, q_lt, q_eq, pk_mul, nI_add, q_sub, q_div, q_pos, q_neg, q_T, q_F, q_max0, q_flg1, q_flg0, q_min, q_min2, q_bit, q_some, h1, h3, c1]
        · simp (disch := omega) only [fX5_sheet, lt, jn, q_lit, q_bnd, q_cl, q_le, q_lt, q_eq, pk_mul, nI_add, q_sub, q_div, q_pos, q_neg, q_T, q_F, q_max0, q_flg1, q_flg0, q_min, q_min2, q_bit, q_some, h4, c1]
    · refine ⟨-1, X, S, ?_, ?_, h⟩
      · simp (disch := omega) only [fX4_sheet, lt, jn, q_lit, q_bnd, q_cl, q_le, q_lt, q_eq, pk_mul, nI_add, q_sub, q_div, q_pos, q_neg, q_T, q_F, q_max0, q_flg1, q_flg0, q_min, q_min2, q_bit, q_some, h1, h3]
      · simp (disch := omega) only [fX5_sheet, lt, jn, q_lit, q_bnd, q_cl, q_le, q_lt, q_eq, pk_mul, nI_add, q_sub, q_div, q_pos, q_neg, q_T, q_F, q_max0, q_flg1, q_flg0, q_min, q_min2, q_bit, q_some, h4]
  · refine ⟨-1, X, S, ?_, ?_, h⟩
    · simp (disch := omega) only [fX4_sheet, lt, jn, q_lit, q_bnd, q_cl, q_le, q_lt, q_eq, pk_mul, nI_add, q_sub, q_div, q_pos, q_neg, q_T, q_F, q_max0, q_flg1, q_flg0, q_min, q_min2, q_bit, q_some, h1]
    · simp (disch := omega) only [fX5_sheet, lt, jn, q_lit, q_bnd, q_cl, q_le, q_lt, q_eq, pk_mul, nI_add, q_sub, q_div, q_pos, q_neg, q_T, q_F, q_max0, q_flg1, q_flg0, q_min, q_min2, q_bit, q_some, h2]
theorem neg4 (l : Nat) (h : l < 3) : ¬ nI l = -nI 4 := m4_ne l (by omega)
theorem k_lay {X : M3} {S : M2} (h : R X S) (x y z : Int32) : ∃ a X' S', fX4_lay x y z X = some (a, X') ∧ fX5_lay x y z S = some (a, S') ∧ R X' S' := by
  obtain ⟨-, -, hS, -⟩ := id h
  rcases q_sheet x with ⟨k, hk, rfl, h1⟩ | ⟨-, h1, h2⟩
  · have h4 : fX5_isSheet (nI k) (nI 0) = some (nI 1) := by
      rcases q_lane hk (nI 0) with ⟨l, hl, -, -, h4⟩ | ⟨hl, -, -⟩
      · exact h4
      · exact absurd rfl (hl 0 (by omega))
    have hk4 := hS k hk
    rw [sh4_x hk] at hk4
    rcases hk4 with ⟨s0, s20⟩ | ⟨s0, l, n, hl, hn, s1, s20, s2, s21, s3⟩
    · refine ⟨-11, X, S, ?_, ?_, h⟩
      · simp (disch := omega) only [fX4_lay, lt, jn, q_lit, q_bnd, q_cl, q_le, q_lt, q_eq, pk_mul, nI_add, q_sub, q_div, q_pos, q_neg, q_T, q_F, q_max0, q_flg1, q_flg0, q_min, q_min2, q_bit, q_some, h1, s0]
      · have s20' : S 20 k = -nI 4 := s20
        simp (disch := omega) only [fX5_lay, lt, jn, q_lit, q_bnd, q_cl, q_le, q_lt, q_eq, pk_mul, nI_add, q_sub, q_div, q_pos, q_neg, q_T, q_F, q_max0, q_flg1, q_flg0, q_min, q_min2, q_bit, q_some, h4, s20', q_T]
    · have l4 := neg4 l hl
      rcases q_has y n (by omega) with ⟨j, hj, rfl, e1⟩ | ⟨-, e1⟩
      · have key : ∀ v : Int32, R (va_up X (6 + k) (va_up (X (6 + k)) 3 (upd (X (6 + k) 3) j v))) (va_up S 22 (upd (S 22) (40 * k + j) v)) := by
          intro v
          refine h.sheet hk (fun q a1 a2 a3 => ?_) (fun j' hj' hne => ⟨rfl, rfl, fun i hi => ?_⟩) ⟨s0, l, n, hl, hn, s1, s20, s2, s21, fun i hi => ?_⟩
          · rw [q_up, if_neg a3]
          · rw [q_up, if_pos rfl, q_ud, if_neg (by omega)]
          · rw [q_up, if_pos rfl, q_up, if_pos rfl, q_ud, q_ud]
            by_cases e : i = j
            · rw [if_pos e, if_pos (by omega)]
            · rw [if_neg e, if_neg (by omega)]
              exact s3 i hi
        rcases wb_cases hl with rfl | rfl | rfl
        · refine ⟨1, _, _, ?_, ?_, key z.toInt8.toInt32⟩
          · simp (disch := omega) only [fX4_lay, fX2_hasCell, fX2_setCell, lt, jn, q_lit, q_bnd, q_cl, q_le, q_lt, q_eq, pk_mul, nI_add, q_sub, q_div, q_pos, q_neg, q_T, q_F, q_max0, q_flg1, q_flg0, q_min, q_min2, q_bit, q_some, h1, s0, s1, s2, e1, q_win]
          · simp (disch := omega) only [fX5_lay, lt, jn, q_lit, q_bnd, q_cl, q_le, q_lt, q_eq, pk_mul, nI_add, q_sub, q_div, q_pos, q_neg, q_T, q_F, q_max0, q_flg1, q_flg0, q_min, q_min2, q_bit, q_some, q_in_0_127, q_in_0_1, q_in_0_2, q_in_0_3, q_in_0_4, q_in_0_5, q_in_0_9, q_in_0_10, q_in_0_20, q_in_1_20, q_in_48_57, q_in_97_122, q_inB, h4, s20, s21, l4, q_F, e1, q_win]
        · refine ⟨1, _, _, ?_, ?_, key z.toInt16.toInt32⟩
          · simp (disch := omega) only [fX4_lay, fX2_hasCell, fX2_setCell, lt, jn, q_lit, q_bnd, q_cl, q_le, q_lt, q_eq, pk_mul, nI_add, q_sub, q_div, q_pos, q_neg, q_T, q_F, q_max0, q_flg1, q_flg0, q_min, q_min2, q_bit, q_some, h1, s0, s1, s2, e1, q_win]
          · simp (disch := omega) only [fX5_lay, lt, jn, q_lit, q_bnd, q_cl, q_le, q_lt, q_eq, pk_mul, nI_add, q_sub, q_div, q_pos, q_neg, q_T, q_F, q_max0, q_flg1, q_flg0, q_min, q_min2, q_bit, q_some, q_in_0_127, q_in_0_1, q_in_0_2, q_in_0_3, q_in_0_4, q_in_0_5, q_in_0_9, q_in_0_10, q_in_0_20, q_in_1_20, q_in_48_57, q_in_97_122, q_inB, h4, s20, s21, l4, q_F, e1, q_win]
        · refine ⟨1, _, _, ?_, ?_, key z⟩
          · simp (disch := omega) only [fX4_lay, fX2_hasCell, fX2_setCell, lt, jn, q_lit, q_bnd, q_cl, q_le, q_lt, q_eq, pk_mul, nI_add, q_sub, q_div, q_pos, q_neg, q_T, q_F, q_max0, q_flg1, q_flg0, q_min, q_min2, q_bit, q_some, h1, s0, s1, s2, e1, q_win]
          · simp (disch := omega) only [fX5_lay, lt, jn, q_lit, q_bnd, q_cl, q_le, q_lt, q_eq, pk_mul, nI_add, q_sub, q_div, q_pos, q_neg, q_T, q_F, q_max0, q_flg1, q_flg0, q_min, q_min2, q_bit, q_some, q_in_0_127, q_in_0_1, q_in_0_2, q_in_0_3, q_in_0_4, q_in_0_5, q_in_0_9, q_in_0_10, q_in_0_20, q_in_1_20, q_in_48_57, q_in_97_122, q_inB, h4, s20, s21, l4, q_F, e1, q_win]
      · refine ⟨-12, X, S, ?_, ?_, h⟩
        · unfold fX4_lay
          simp (disch := omega) only [fX2_hasCell, lt, q_lit, q_bnd, q_cl, q_eq, q_neg, q_T, q_some, h1, s0, s2, e1]
        · simp (disch := omega) only [fX5_lay, lt, q_lit, q_bnd, q_cl, q_eq, q_neg, q_T, q_some, q_in_0_127, q_in_0_1, q_in_0_2, q_in_0_3, q_in_0_4, q_in_0_5, q_in_0_9, q_in_0_10, q_in_0_20, q_in_1_20, q_in_48_57, q_in_97_122, q_inB, h4, s20, s21, l4, q_F, e1]
  · refine ⟨-1, X, S, ?_, ?_, h⟩
    · simp (disch := omega) only [fX4_lay, lt, jn, q_lit, q_bnd, q_cl, q_le, q_lt, q_eq, pk_mul, nI_add, q_sub, q_div, q_pos, q_neg, q_T, q_F, q_max0, q_flg1, q_flg0, q_min, q_min2, q_bit, q_some, h1]
    · simp (disch := omega) only [fX5_lay, lt, jn, q_lit, q_bnd, q_cl, q_le, q_lt, q_eq, pk_mul, nI_add, q_sub, q_div, q_pos, q_neg, q_T, q_F, q_max0, q_flg1, q_flg0, q_min, q_min2, q_bit, q_some, h2]
end
section
/-! read -/
theorem q_cmpn {a : Nat} : (lg_cmp (lN a) 0 < nI 0) = (lN a < 0) := propext (lg_cmp_lt (lN a) 0)
theorem q_cmpl (x y : Int64) : (lg_cmp x y < nI 0) = (x < y) := propext (lg_cmp_lt x y)
theorem q_lneg {a : Nat} (h : a < 2 ^ 63) : (lN a < 0) = False := propext ⟨fun q => Nat.not_lt_zero _ ((pk_lLT (b := 0) h (by decide)).mp q), False.elim⟩
theorem q_llt {a b : Nat} (h : a < 2 ^ 63 ∧ b < 2 ^ 63) : (lN a < lN b) = (a < b) := propext (pk_lLT h.1 h.2)
/-- a fold of what is there -/
theorem fold_step {X : M3} {S : M2} (h : R X S) {n b k2 : Nat} (hn0 : X 2 0 0 = nI n) (hn5 : n ≤ 5) (hb : b < n) (hk2 : k2 < 3) : ∃ (Q S' : M2) (v : Nat), fX1_putOnTop (nI b) (nI k2) (X 2) = some Q ∧ fX5_fold (nI b) (nI k2) S = some (nI v, S') ∧ v ≤ 5 ∧ R (va_up X 2 Q) S' ∧ Q 0 0 = nI n ∧ (∀ q, q ≠ 0 → q ≠ 1 → S' q = S q) ∧ ∀ x, 62 ≤ x → S' 0 x = S 0 x := by
  obtain ⟨N, B, hW, hn, hC, hM, e3, e4, hN, hK⟩ := h.data
  have w1 := hW.1
  have c00 := hC.1.1
  have hnN : n = N 0 0 := by
    rw [c00] at hn0
    exact ((nI_eq (by omega) (by omega)).mp hn0).symm
  subst hnN
  have eb : fX5_isBolt (nI b) S = fX1_hasBolt (nI b) (X 2) := m_isBolt (e3.trans hC.1.1.symm) (nI b)
  have ek : fX5_isBale (nI k2) = fX4_isBale (nI k2) := m_isBale (nI k2)
  have h1 : fX1_hasBolt (nI b) (X 2) = some (nI 1) := by
    rcases t_hasBolt hC.1.1 w1.1 (nI b) with ⟨j, hj, -, h1⟩ | ⟨h0, -⟩
    · exact h1
    · exact absurd rfl (h0 b hb)
  have h2 : fX4_isBale (nI k2) = some (nI 1) := by
    rcases t_isBale (nI k2) with ⟨j, hj, -, h1⟩ | ⟨h0, -⟩
    · exact h1
    · exact absurd rfl (h0 k2 hk2)
  rw [h1] at eb
  rw [h2] at ek
  obtain ⟨k, i, hk, hi⟩ := hW.2.2.2.2.ex hb
  obtain ⟨Q, q1, q2, q3⟩ := t_putOnTop hC hW hk hk2 hi
  obtain ⟨S1, i1, i2, -⟩ := hN.starts
  obtain ⟨S2, j1, j2⟩ := m_folds i2 hW hk hk2 hi true
  rw [if_pos rfl] at j2
  obtain ⟨S3, l1, l2, l3, l4, l5⟩ := m_settles j2 q3
  have l3' : S3 3 0 = nI (N 0 0) := by rw [l2 3 (by decide) (by decide)]; exact e3
  have l4' : S3 4 0 = nI (N 7 0) := by rw [l2 4 (by decide) (by decide)]; exact e4
  have hl := m_lies (S0 := S3) (S := S3) ⟨fun _ _ => rfl, l3', l4', l4⟩ q3 hk2
  have hle := q3.2.2.2.2.le hk2
  refine ⟨Q, S3, (spTop (spTake B k i) k2 b k2).length, q1, ?_, by omega, h.now hK e3 e4 rfl rfl q3 hn q2 l3 l2 l5, q2.1.1, l2, l5⟩
  simp (disch := omega) only [fX5_fold, fX5_folded, lt, jn, q_lit, q_bnd, q_cl, q_le, q_lt, q_eq, pk_mul, nI_add, q_sub, q_div, q_pos, q_neg, q_T, q_F, q_max0, q_flg1, q_flg0, q_min, q_min2, q_bit, q_some, eb, ek, i1]
  have j1' : fX5_folds (nI b) (nI k2) (nI 1) S1 = some S2 := j1
  simp (disch := omega) only [lt, jn, q_lit, q_bnd, q_cl, q_le, q_lt, q_eq, pk_mul, nI_add, q_sub, q_div, q_pos, q_neg, q_T, q_F, q_max0, q_flg1, q_flg0, q_min, q_min2, q_bit, q_some, j1', l1, hl]
theorem fold_bad {S T : M2} {n : Nat} (h3 : S 3 0 = nI n) (hT : T 0 0 = nI n) (x y : Int32) (h : fX1_hasBolt x T = some (nI 0) ∨ fX1_hasBolt x T = some (nI 1) ∧ fX4_isBale y = some (nI 0)) : fX5_fold x y S = some (-nI 1, S) := by
  have eb : fX5_isBolt x S = fX1_hasBolt x T := m_isBolt (h3.trans hT.symm) x
  have ek : fX5_isBale y = fX4_isBale y := m_isBale y
  rcases h with h | ⟨h, h2⟩
  · rw [h] at eb
    simp (disch := omega) only [fX5_fold, fX5_folded, lt, jn, q_lit, q_bnd, q_cl, q_le, q_lt, q_eq, pk_mul, nI_add, q_sub, q_div, q_pos, q_neg, q_T, q_F, q_max0, q_flg1, q_flg0, q_min, q_min2, q_bit, q_some, eb]
  · rw [h] at eb
    rw [h2] at ek
    simp (disch := omega) only [fX5_fold, fX5_folded, lt, jn, q_lit, q_bnd, q_cl, q_le, q_lt, q_eq, pk_mul, nI_add, q_sub, q_div, q_pos, q_neg, q_T, q_F, q_max0, q_flg1, q_flg0, q_min, q_min2, q_bit, q_some, eb, ek]
theorem R.had {X : M3} {S S' : M2} (h : R X S) (e : ∀ q, q ≠ 24 → S' q = S q) : R X S' := by
  have e0 := e 0 (by decide)
  have e2 := e 2 (by decide)
  have e3 := e 3 (by decide)
  have e4 := e 4 (by decide)
  have e11 := e 11 (by decide)
  have e12 := e 12 (by decide)
  have e17 := e 17 (by decide)
  have e20 := e 20 (by decide)
  have e21 := e 21 (by decide)
  have e22 := e 22 (by decide)
  have e23 := e 23 (by decide)
  unfold R at h ⊢
  rw [e0, e2, e3, e4, e11, e12, e17, e20, e21, e22, e23]
  exact h
theorem m_had_L (a b c e : Int32) : ∀ (d j f : Nat) (S : M2), j + d = 62 → d < f → ∃ S', (∀ kk : M2 → Option (Int32 × M2), fX5_read_L26 a b c e kk f (nI j) S = kk S') ∧ (∀ q, q ≠ 24 → S' q = S q) ∧ ∀ x, S' 24 x = if j ≤ x ∧ x < 62 then S 0 x else S 24 x
  | 0, j, f + 1, S, hd, hf => by
    refine ⟨S, fun kk => ?_, fun _ _ => rfl, fun x => ?_⟩
    · simp (disch := omega) only [fX5_read_L26, lt, jn, q_lit, q_bnd, q_cl, q_le, q_lt, q_eq, pk_mul, nI_add, q_sub, q_div, q_pos, q_neg, q_T, q_F, q_max0, q_flg1, q_flg0, q_min, q_min2, q_bit, q_some]
    · rw [if_neg (by omega)]
  | d + 1, j, f + 1, S, hd, hf => by
    obtain ⟨S', i1, i2, i3⟩ := m_had_L a b c e d (j + 1) f (va_up S 24 (upd (S 24) j (S 0 j))) (by omega) (by omega)
    refine ⟨S', fun kk => ?_, fun q hq => ?_, fun x => ?_⟩
    · simp (disch := omega) only [fX5_read_L26, lt, jn, q_lit, q_bnd, q_cl, q_le, q_lt, q_eq, pk_mul, nI_add, q_sub, q_div, q_pos, q_neg, q_T, q_F, q_max0, q_flg1, q_flg0, q_min, q_min2, q_bit, q_some, i1]
    · rw [i2 q hq, q_up, if_neg hq]
    · rw [i3]
      show (if j + 1 ≤ x ∧ x < 62 then S 0 x else upd (S 24) j (S 0 j) x) = _
      rw [q_ud]
      by_cases e1 : x = j
      · subst e1
        rw [if_neg (by omega), if_pos rfl, if_pos (by omega)]
      · by_cases e2 : j ≤ x ∧ x < 62
        · rw [if_pos (by omega), if_pos e2]
        · rw [if_neg (by omega), if_neg e1, if_neg e2]
theorem m_un_L (p : Int32 × M2) : ∀ (d j f : Nat) (S : M2), j + d = 62 → d < f → ∃ S', (∀ kk : M2 → Option (Int32 × M2), fX5_read_L208 p kk f (nI j) S = kk S') ∧ (∀ q, q ≠ 0 → S' q = S q) ∧ ∀ x, S' 0 x = if j ≤ x ∧ x < 62 then S 24 x else S 0 x
  | 0, j, f + 1, S, hd, hf => by
    refine ⟨S, fun kk => ?_, fun _ _ => rfl, fun x => ?_⟩
    · simp (disch := omega) only [fX5_read_L208, lt, jn, q_lit, q_bnd, q_cl, q_le, q_lt, q_eq, pk_mul, nI_add, q_sub, q_div, q_pos, q_neg, q_T, q_F, q_max0, q_flg1, q_flg0, q_min, q_min2, q_bit, q_some]
    · rw [if_neg (by omega)]
  | d + 1, j, f + 1, S, hd, hf => by
    obtain ⟨S', i1, i2, i3⟩ := m_un_L p d (j + 1) f (va_up S 0 (upd (S 0) j (S 24 j))) (by omega) (by omega)
    refine ⟨S', fun kk => ?_, fun q hq => ?_, fun x => ?_⟩
    · simp (disch := omega) only [fX5_read_L208, lt, jn, q_lit, q_bnd, q_cl, q_le, q_lt, q_eq, pk_mul, nI_add, q_sub, q_div, q_pos, q_neg, q_T, q_F, q_max0, q_flg1, q_flg0, q_min, q_min2, q_bit, q_some, i1]
    · rw [i2 q hq, q_up, if_neg hq]
    · rw [i3]
      show (if j + 1 ≤ x ∧ x < 62 then S 24 x else upd (S 0) j (S 24 j) x) = _
      rw [q_ud]
      by_cases e1 : x = j
      · subst e1
        rw [if_neg (by omega), if_pos rfl, if_pos (by omega)]
      · by_cases e2 : j ≤ x ∧ x < 62
        · rw [if_pos (by omega), if_pos e2]
        · rw [if_neg (by omega), if_neg e1, if_neg e2]
/-- a pair can be folded -/
def okPair (n : Nat) (c : Nat → Int32) (p : Nat) : Prop := (∃ b, b < n ∧ c p = nI b) ∧ ∃ k, k < 3 ∧ c (p + 1) = nI k
theorem pair_cases {T : M2} {n : Nat} (hT : T 0 0 = nI n) (hn : n ≤ 5) (c : Nat → Int32) (p : Nat) : (okPair n c p ∧ fX1_hasBolt (c p) T = some (nI 1) ∧ fX4_isBale (c (p + 1)) = some (nI 1)) ∨ (¬ okPair n c p ∧ (fX1_hasBolt (c p) T = some (nI 0) ∨ fX1_hasBolt (c p) T = some (nI 1) ∧ fX4_isBale (c (p + 1)) = some (nI 0))) := by
  rcases t_hasBolt hT hn (c p) with ⟨b, hb, e, h1⟩ | ⟨h0, h1⟩
  · rcases t_isBale (c (p + 1)) with ⟨k, hk, e2, h2⟩ | ⟨h0, h2⟩
    · exact Or.inl ⟨⟨⟨b, hb, e⟩, ⟨k, hk, e2⟩⟩, h1, h2⟩
    · exact Or.inr ⟨fun q => by obtain ⟨-, k, hk, e3⟩ := q; exact h0 k hk e3, Or.inr ⟨h1, h2⟩⟩
  · exact Or.inr ⟨fun q => by obtain ⟨⟨b, hb, e3⟩, -⟩ := q; exact h0 b hb e3, Or.inl h1⟩
/-- the class looks whether all pairs can be folded -/
theorem t_look_L {X : M3} {k f0 n W sz : Nat} {p16 : Int32} (hk : k < 4) (hsz : sz ≤ 40) (hW : f0 + 2 * W ≤ sz) (hT : X 2 0 0 = nI n) (hn : n ≤ 5) (kk : Unit → Option (Int32 × M3)) : ∀ (d t f : Nat), t + d = W → d < f → ((∀ i, t ≤ i → i < W → okPair n (X (6 + k) 3) (f0 + 2 * i)) ∧ fX4_read_L89 X (nI k) (nI f0) (nI W) p16 kk f (nI t) = kk ()) ∨ ∃ i0, t ≤ i0 ∧ i0 < W ∧ (∀ i, t ≤ i → i < i0 → okPair n (X (6 + k) 3) (f0 + 2 * i)) ∧ ¬ okPair n (X (6 + k) 3) (f0 + 2 * i0) ∧ fX4_read_L89 X (nI k) (nI f0) (nI W) p16 kk f (nI t) = some (-nI 20 - nI i0, X)
  | 0, t, f + 1, ht, hf => by
    refine Or.inl ⟨fun i h1 h2 => by omega, ?_⟩
    simp (disch := omega) only [fX4_read_L89, lt, jn, q_lit, q_bnd, q_cl, q_le, q_lt, q_eq, pk_mul, nI_add, q_sub, q_div, q_pos, q_neg, q_T, q_F, q_max0, q_flg1, q_flg0, q_min, q_min2, q_bit, q_some]
  | d + 1, t, f + 1, ht, hf => by
    rcases pair_cases hT hn (X (6 + k) 3) (f0 + 2 * t) with ⟨h1, h2, h3⟩ | ⟨h1, h2 | ⟨h2, h3⟩⟩
    · rcases t_look_L (p16 := p16) hk hsz hW hT hn kk d (t + 1) f (by omega) (by omega) with ⟨g1, g2⟩ | ⟨i0, g1, g2, g3, g4, g5⟩
      · refine Or.inl ⟨fun i a1 a2 => ?_, ?_⟩
        · by_cases e : i = t
          · rw [e]; exact h1
          · exact g1 i (by omega) a2
        · rw [← g2]
          simp (disch := omega) only [fX4_read_L89, lt, jn, q_lit, q_bnd, q_cl, q_le, q_lt, q_eq, pk_mul, nI_add, q_sub, q_div, q_pos, q_neg, q_T, q_F, q_max0, q_flg1, q_flg0, q_min, q_min2, q_bit, q_some, h2, h3]
      · refine Or.inr ⟨i0, by omega, g2, fun i a1 a2 => ?_, g4, ?_⟩
        · by_cases e : i = t
          · rw [e]; exact h1
          · exact g3 i (by omega) a2
        · rw [← g5]
          simp (disch := omega) only [fX4_read_L89, lt, jn, q_lit, q_bnd, q_cl, q_le, q_lt, q_eq, pk_mul, nI_add, q_sub, q_div, q_pos, q_neg, q_T, q_F, q_max0, q_flg1, q_flg0, q_min, q_min2, q_bit, q_some, h2, h3]
    · refine Or.inr ⟨t, by omega, by omega, fun i a1 a2 => by omega, h1, ?_⟩
      simp (disch := omega) only [fX4_read_L89, lt, q_lit, q_bnd, q_cl, q_eq, q_le, q_neg, q_T, q_F, q_some, pk_mul, nI_add, h2]
    · refine Or.inr ⟨t, by omega, by omega, fun i a1 a2 => by omega, h1, ?_⟩
      simp (disch := omega) only [fX4_read_L89, lt, q_lit, q_bnd, q_cl, q_eq, q_le, q_neg, q_T, q_F, q_some, pk_mul, nI_add, h2, h3]
theorem t_cell {Q : M2} {sz : Nat} (h0 : Q 0 0 = nI 1) (h2 : Q 2 0 = nI sz) (hsz : sz ≤ 40) (x : Int32) : (∃ j, j < sz ∧ x = nI j ∧ fX2_hasCell x Q = some (nI 1)) ∨ ((∀ j, j < sz → x ≠ nI j) ∧ fX2_hasCell x Q = some (nI 0)) := by
  rcases q_has x sz (by omega) with ⟨j, hj, rfl, e⟩ | ⟨hj, e⟩
  · refine Or.inl ⟨j, hj, rfl, ?_⟩
    unfold fX2_hasCell
    rw [h0, h2, if_neg (by decide), q_lit, q_lit, e]
    rfl
  · refine Or.inr ⟨hj, ?_⟩
    unfold fX2_hasCell
    rw [h0, h2, if_neg (by decide), q_lit, q_lit, e]
    rfl
theorem t_whole_L {Q : M2} {sz f0 n : Nat} (h0 : Q 0 0 = nI 1) (h2 : Q 2 0 = nI sz) (hsz : sz ≤ 40) (hf0 : f0 < sz) (hn : n ≤ 20) (kk : Int32 → Option Int32) : ∀ (d t f : Nat), t + d = n → d < f → f0 + 2 * t ≤ sz → ∃ W, t ≤ W ∧ W ≤ n ∧ f0 + 2 * W ≤ sz ∧ (W < n → sz ≤ f0 + 2 * W + 1) ∧ fX2_wholePairs_L2 Q (nI f0) (nI n) kk f (nI t) = kk (nI W)
  | 0, t, f + 1, ht, hf, hle => by
    refine ⟨t, by omega, by omega, hle, by omega, ?_⟩
    simp (disch := omega) only [fX2_wholePairs_L2, lt, jn, q_lit, q_bnd, q_cl, q_le, q_lt, q_eq, pk_mul, nI_add, q_sub, q_div, q_pos, q_neg, q_T, q_F, q_max0, q_flg1, q_flg0, q_min, q_min2, q_bit, q_some]
  | d + 1, t, f + 1, ht, hf, hle => by
    have hc : fX2_hasCell (nI f0) Q = some (nI 1) := by
      rcases t_cell h0 h2 hsz (nI f0) with ⟨j, hj, -, e⟩ | ⟨hj, -⟩
      · exact e
      · exact absurd rfl (hj f0 hf0)
    rcases t_cell h0 h2 hsz (nI (f0 + 2 * t + 1)) with ⟨j, hj, ej, e⟩ | ⟨hj, e⟩
    · rw [nI_eq (by omega) (by omega)] at ej
      obtain ⟨W, g1, g2, g3, g4, g5⟩ := t_whole_L h0 h2 hsz hf0 hn kk d (t + 1) f (by omega) (by omega) (by omega)
      refine ⟨W, by omega, g2, g3, g4, ?_⟩
      rw [← g5]
      simp (disch := omega) only [fX2_wholePairs_L2, lt, jn, q_lit, q_bnd, q_cl, q_le, q_lt, q_eq, pk_mul, nI_add, q_sub, q_div, q_pos, q_neg, q_T, q_F, q_max0, q_flg1, q_flg0, q_min, q_min2, q_bit, q_some, hc, e]
    · refine ⟨t, Nat.le_refl t, by omega, hle, fun _ => ?_, ?_⟩
      · by_cases e2 : f0 + 2 * t + 1 < sz
        · exact absurd rfl (hj _ e2)
        · omega
      · simp (disch := omega) only [fX2_wholePairs_L2, lt, jn, q_lit, q_bnd, q_cl, q_le, q_lt, q_eq, pk_mul, nI_add, q_sub, q_div, q_pos, q_neg, q_T, q_F, q_max0, q_flg1, q_flg0, q_min, q_min2, q_bit, q_some, hc, e]
/-- the model's two looks at a pair -/
theorem m_two {S : M2} {k l sz f0 t : Nat} (hk : k < 4) (hl : l < 3) (s20 : S 20 k = nI l) (s21 : S 21 k = nI sz) (hsz : sz ≤ 40) (hf0 : f0 < 100) (ht : t < 100) (i4 v10 : Int32) (kk : Int32 → Option (Int32 × M2)) : fX5_read_L77 (nI k) (nI l) (nI f0) i4 v10 (nI t) S kk 400 (nI 0) (nI 0) = kk (if f0 + 2 * t + 1 < sz then nI 0 else nI 2) := by
  have l4 := neg4 l hl
  by_cases e : f0 + 2 * t < sz
  · by_cases e2 : f0 + 2 * t + 1 < sz
    · rw [if_pos e2, fX5_read_L77]
      simp (disch := omega) only [lt, jn, q_lit, q_bnd, q_cl, q_le, q_lt, q_eq, pk_mul, nI_add, q_sub, q_div, q_pos, q_neg, q_T, q_F, q_max0, q_flg1, q_flg0, q_min, q_min2, q_bit, q_some, s20, s21, l4, nI_l, lN_add, q_cmpl, q_lneg, q_llt, Nat.add_zero]
      rw [fX5_read_L77]
      simp (disch := omega) only [lt, jn, q_lit, q_bnd, q_cl, q_le, q_lt, q_eq, pk_mul, nI_add, q_sub, q_div, q_pos, q_neg, q_T, q_F, q_max0, q_flg1, q_flg0, q_min, q_min2, q_bit, q_some, s20, s21, l4, nI_l, lN_add, q_cmpl, q_lneg, q_llt, Nat.add_zero]
      rw [fX5_read_L77]
      simp (disch := omega) only [lt, jn, q_lit, q_bnd, q_cl, q_le, q_lt, q_eq, pk_mul, nI_add, q_sub, q_div, q_pos, q_neg, q_T, q_F, q_max0, q_flg1, q_flg0, q_min, q_min2, q_bit, q_some]
    · rw [if_neg e2, fX5_read_L77]
      simp (disch := omega) only [lt, jn, q_lit, q_bnd, q_cl, q_le, q_lt, q_eq, pk_mul, nI_add, q_sub, q_div, q_pos, q_neg, q_T, q_F, q_max0, q_flg1, q_flg0, q_min, q_min2, q_bit, q_some, s20, s21, l4, nI_l, lN_add, q_cmpl, q_lneg, q_llt, Nat.add_zero]
      rw [fX5_read_L77]
      simp (disch := omega) only [lt, jn, q_lit, q_bnd, q_cl, q_le, q_lt, q_eq, pk_mul, nI_add, q_sub, q_div, q_pos, q_neg, q_T, q_F, q_max0, q_flg1, q_flg0, q_min, q_min2, q_bit, q_some, s20, s21, l4, nI_l, lN_add, q_cmpl, q_lneg, q_llt, Nat.add_zero]
      rw [fX5_read_L77]
      simp (disch := omega) only [lt, jn, q_lit, q_bnd, q_cl, q_le, q_lt, q_eq, pk_mul, nI_add, q_sub, q_div, q_pos, q_neg, q_T, q_F, q_max0, q_flg1, q_flg0, q_min, q_min2, q_bit, q_some]
  · rw [if_neg (by omega), fX5_read_L77]
    simp (disch := omega) only [lt, jn, q_lit, q_bnd, q_cl, q_le, q_lt, q_eq, pk_mul, nI_add, q_sub, q_div, q_pos, q_neg, q_T, q_F, q_max0, q_flg1, q_flg0, q_min, q_min2, q_bit, q_some, s20, s21, l4, nI_l, lN_add, q_cmpl, q_lneg, q_llt, Nat.add_zero]
    rw [fX5_read_L77]
    simp (disch := omega) only [lt, jn, q_lit, q_bnd, q_cl, q_le, q_lt, q_eq, pk_mul, nI_add, q_sub, q_div, q_pos, q_neg, q_T, q_F, q_max0, q_flg1, q_flg0, q_min, q_min2, q_bit, q_some]
/-- T pairs are folded -/
theorem run_L {k l sz f0 n W T : Nat} {p16 : Int32} (hk : k < 4) (hl : l < 3) (hsz : sz ≤ 40) (hf0 : f0 < sz) (hn5 : n ≤ 5) (hm : W ≤ 20) (hW : f0 + 2 * W ≤ sz) (m : Nat) (hmn : W ≤ m) (hm20 : m ≤ 20) (hT : T ≤ W) (k205 : (Int32 × M2) → Option (Int32 × M2)) (k250 : (Int32 × Int32 × M2) → Option (Int32 × M2)) (kx : M3 → Option (Int32 × M3)) : ∀ (d t f g : Nat) (X : M3) (S : M2), t + d = T → R X S → X 2 0 0 = nI n → S 20 k = nI l → S 21 k = nI sz → (∀ i, i < sz → X (6 + k) 3 i = S 22 (40 * k + i)) → (∀ i, t ≤ i → i < T → okPair n (X (6 + k) 3) (f0 + 2 * i)) → ∃ (X' : M3) (S' : M2), fX4_read_L153 (nI k) (nI f0) (nI W) p16 kx (f + d) (nI t) X = fX4_read_L153 (nI k) (nI f0) (nI W) p16 kx f (nI T) X' ∧ fX5_read_L62 (nI k) (nI l) (nI f0) (nI m) k205 k250 (g + d) (nI 0) (nI t) (nI t) S = fX5_read_L62 (nI k) (nI l) (nI f0) (nI m) k205 k250 g (nI 0) (nI T) (nI T) S' ∧ R X' S' ∧ X' 2 0 0 = nI n ∧ (∀ q, q ≠ 2 → X' q = X q) ∧ (∀ q, q ≠ 0 → q ≠ 1 → S' q = S q) ∧ ∀ x, 62 ≤ x → S' 0 x = S 0 x
  | 0, t, f, g, X, S, ht, hR, hX, s20, s21, hc, hok => by
    have e : t = T := by omega
    subst e
    exact ⟨X, S, rfl, rfl, hR, hX, fun _ _ => rfl, fun _ _ _ => rfl, fun _ _ => rfl⟩
  | d + 1, t, f, g, X, S, ht, hR, hX, s20, s21, hc, hok => by
    obtain ⟨⟨b, hb, e1⟩, ⟨k2, hk2, e2⟩⟩ := hok t (Nat.le_refl t) (by omega)
    obtain ⟨Q, S1, v, q1, q2, q3, q4, q5, q6, q7⟩ := fold_step hR hX hn5 hb hk2
    have hX' : va_up X 2 Q 2 0 0 = nI n := q5
    have hx : ∀ q, q ≠ 2 → va_up X 2 Q q = X q := fun q hq => by rw [q_up, if_neg hq]
    obtain ⟨X', S', r1, r2, r3, r4, r5, r6, r7⟩ := run_L (p16 := p16) hk hl hsz hf0 hn5 hm hW m hmn hm20 hT k205 k250 kx d (t + 1) f g (va_up X 2 Q) S1 (by omega) q4 hX' (by rw [q6 20 (by decide) (by decide)]; exact s20) (by rw [q6 21 (by decide) (by decide)]; exact s21) (fun i hi => by rw [hx _ (by omega), q6 22 (by decide) (by decide)]; exact hc i hi) (fun i a1 a2 => by rw [hx _ (by omega)]; exact hok i (by omega) a2)
    refine ⟨X', S', ?_, ?_, r3, r4, fun q hq => (r5 q hq).trans (hx q hq), fun q h0 h1 => (r6 q h0 h1).trans (q6 q h0 h1), fun x hx => (r7 x hx).trans (q7 x hx)⟩
    · rw [← r1, show f + (d + 1) = f + d + 1 by omega]
      simp (disch := omega) only [fX4_read_L153, lt, jn, q_lit, q_bnd, q_cl, q_le, q_lt, q_eq, pk_mul, nI_add, q_sub, q_div, q_pos, q_neg, q_T, q_F, q_max0, q_flg1, q_flg0, q_min, q_min2, q_bit, q_some, e1, e2, q1]
    · have c1 : S 22 (40 * k + f0 + 2 * t) = nI b := by rw [← e1, hc _ (by omega), Nat.add_assoc]
      have c2 : S 22 (40 * k + f0 + 2 * t + 1) = nI k2 := by
        rw [← e2, hc _ (by omega)]
        exact congrArg (S 22) (by omega)
      have tw := fun v10 kk => m_two (f0 := f0) (t := t) hk hl s20 s21 hsz (by omega) (by omega) (nI m) v10 kk
      rw [← r2, show g + (d + 1) = g + d + 1 by omega]
      simp (disch := omega) only [fX5_read_L62, lt, jn, q_lit, q_bnd, q_cl, q_le, q_lt, q_eq, pk_mul, nI_add, q_sub, q_div, q_pos, q_neg, q_T, q_F, q_max0, q_flg1, q_flg0, q_min, q_min2, q_bit, q_some, tw, c1, c2, q2]
theorem look0 {X : M3} {x f p16 : Int32} (kk : Unit → Option (Int32 × M3)) : fX4_read_L89 X x f (nI 0) p16 kk 400 (nI 0) = kk () := by
  rw [fX4_read_L89]
  simp (disch := omega) only [lt, jn, q_lit, q_bnd, q_cl, q_le, q_lt, q_eq, pk_mul, nI_add, q_sub, q_div, q_pos, q_neg, q_T, q_F, q_max0, q_flg1, q_flg0, q_min, q_min2, q_bit, q_some]
theorem run0 {X : M3} {x f p16 : Int32} (kk : M3 → Option (Int32 × M3)) : fX4_read_L153 x f (nI 0) p16 kk 400 (nI 0) X = kk X := by
  rw [fX4_read_L153]
  simp (disch := omega) only [lt, jn, q_lit, q_bnd, q_cl, q_le, q_lt, q_eq, pk_mul, nI_add, q_sub, q_div, q_pos, q_neg, q_T, q_F, q_max0, q_flg1, q_flg0, q_min, q_min2, q_bit, q_some]
theorem R.torn {X : M3} {S : M2} (h : R X S) (v : Int32) : R (va_up X 0 (va_up (X 0) 7 (fun _ => v))) (va_up S 23 (fun _ => v)) := ⟨h.1, h.2.1, h.2.2.1, rfl⟩
theorem m_stop {x y f v10 : Int32} {m v11 r g : Nat} {S : M2} (k205 : (Int32 × M2) → Option (Int32 × M2)) (k250 : (Int32 × Int32 × M2) → Option (Int32 × M2)) (hr : 0 < r ∧ r < 4) (hm : m ≤ 20) (hv : v11 < m) (tw : ∀ kk, fX5_read_L77 x y f (nI m) v10 (nI v11) S kk 400 (nI 0) (nI 0) = kk (nI r)) : fX5_read_L62 x y f (nI m) k205 k250 (g + 2) (nI 0) v10 (nI v11) S = k250 (nI r, v10, S) := by
  rw [fX5_read_L62]
  simp (disch := omega) only [lt, jn, q_lit, q_bnd, q_cl, q_le, q_lt, q_eq, pk_mul, nI_add, q_sub, q_div, q_pos, q_neg, q_T, q_F, q_max0, q_flg1, q_flg0, q_min, q_min2, q_bit, q_some, tw]
  rw [fX5_read_L62]
  by_cases e : m ≤ v11 + 1
  · simp (disch := omega) only [lt, jn, q_lit, q_bnd, q_cl, q_le, q_lt, q_eq, pk_mul, nI_add, q_sub, q_div, q_pos, q_neg, q_T, q_F, q_max0, q_flg1, q_flg0, q_min, q_min2, q_bit, q_some]
  · simp (disch := omega) only [lt, jn, q_lit, q_bnd, q_cl, q_le, q_lt, q_eq, pk_mul, nI_add, q_sub, q_div, q_pos, q_neg, q_T, q_F, q_max0, q_flg1, q_flg0, q_min, q_min2, q_bit, q_some]
theorem q_le01 : (nI 0 ≤ -nI 1) = False := by decide
theorem t_whole0 {Q : M2} (x : Int32) : fX2_wholePairs x (nI 0) Q = some (nI 0) := by
  unfold fX2_wholePairs
  rw [fX2_wholePairs_L2]
  simp (disch := omega) only [lt, jn, q_lit, q_bnd, q_cl, q_le, q_lt, q_eq, pk_mul, nI_add, q_sub, q_div, q_pos, q_neg, q_T, q_F, q_max0, q_flg1, q_flg0, q_min, q_min2, q_bit, q_some]
theorem t_wholeN {Q : M2} {x : Int32} {m : Nat} (hm : 0 < m ∧ m ≤ 20) (h : fX2_hasCell x Q = some (nI 0)) : fX2_wholePairs x (nI m) Q = some (nI 0) := by
  unfold fX2_wholePairs
  rw [fX2_wholePairs_L2]
  simp (disch := omega) only [lt, jn, q_lit, q_bnd, q_cl, q_le, q_lt, q_eq, pk_mul, nI_add, q_sub, q_div, q_pos, q_neg, q_T, q_F, q_max0, q_flg1, q_flg0, q_min, q_min2, q_bit, q_some, h]
theorem z00 (f : Int32) : f.toInt64 + lN (2 * 0) + lN 0 = f.toInt64 := by
  show f.toInt64 + 0 + 0 = f.toInt64
  rw [Int64.add_zero, Int64.add_zero]
theorem m_out {S : M2} {k l sz : Nat} (hk : k < 4) (hl : l < 3) (s20 : S 20 k = nI l) (s21 : S 21 k = nI sz) (hsz : sz ≤ 40) {x : Int32} (hx : ∀ j, j < sz → x ≠ nI j) (i4 v10 : Int32) (kk : Int32 → Option (Int32 × M2)) : fX5_read_L77 (nI k) (nI l) x i4 v10 (nI 0) S kk 400 (nI 0) (nI 0) = kk (nI 2) := by
  have l4 := neg4 l hl
  rcases pk_ix x (n := sz) (by omega) with h | h | ⟨j, hj, e⟩
  · have a1 : x.toInt64 < 0 := by
      rw [Int32.lt_iff_toInt_lt] at h
      rw [Int64.lt_iff_toInt_lt, Int32.toInt_toInt64]
      exact h
    rw [fX5_read_L77]
    simp (disch := omega) only [lt, jn, q_lit, q_bnd, q_cl, q_le, q_lt, q_eq, pk_mul, nI_add, q_sub, q_div, q_pos, q_neg, q_T, q_F, q_max0, q_flg1, q_flg0, q_min, q_min2, q_bit, q_some, s20, s21, l4, nI_l, z00, q_cmpl, a1]
    rw [fX5_read_L77]
    simp (disch := omega) only [lt, jn, q_lit, q_bnd, q_cl, q_le, q_lt, q_eq, pk_mul, nI_add, q_sub, q_div, q_pos, q_neg, q_T, q_F, q_max0, q_flg1, q_flg0, q_min, q_min2, q_bit, q_some]
  · have a1 : ¬ x.toInt64 < 0 := by
      rw [Int32.le_iff_toInt_le, nI_toInt (by omega)] at h
      rw [Int64.lt_iff_toInt_lt, Int32.toInt_toInt64]
      have : (0 : Int64).toInt = 0 := by decide
      omega
    have a2 : ¬ x.toInt64 < lN sz := by
      rw [Int32.le_iff_toInt_le, nI_toInt (by omega)] at h
      rw [Int64.lt_iff_toInt_lt, Int32.toInt_toInt64, lN_toInt (by omega)]
      omega
    rw [fX5_read_L77]
    simp (disch := omega) only [lt, jn, q_lit, q_bnd, q_cl, q_le, q_lt, q_eq, pk_mul, nI_add, q_sub, q_div, q_pos, q_neg, q_T, q_F, q_max0, q_flg1, q_flg0, q_min, q_min2, q_bit, q_some, s20, s21, l4, nI_l, z00, q_cmpl, a1, a2]
    rw [fX5_read_L77]
    simp (disch := omega) only [lt, jn, q_lit, q_bnd, q_cl, q_le, q_lt, q_eq, pk_mul, nI_add, q_sub, q_div, q_pos, q_neg, q_T, q_F, q_max0, q_flg1, q_flg0, q_min, q_min2, q_bit, q_some]
  · exact absurd e (hx j hj)
end
section
theorem k_read {X : M3} {S : M2} (h : R X S) (x y u v : Int32) : ∃ a X' S', fX4_read x y u v X = some (a, X') ∧ fX5_read x y u v S = some (a, S') ∧ R X' S' := by
  obtain ⟨N, B, hW, hn, hC, hM, e3, e4, hN, hK⟩ := h.data
  have w1 := hW.1
  rcases q_sheet x with ⟨k, hk, rfl, h1⟩ | ⟨-, h1, h2⟩
  · rcases q_lane hk y with ⟨l', hl', rfl, h3, h4⟩ | ⟨-, h3, h4⟩
    · rcases q_within v (a := 0) (b := 20) (by omega) with ⟨m, -, hm, rfl⟩ | ⟨-, v2⟩
      · obtain ⟨S1, i1, i2, i3⟩ := m_had_L (nI k) (nI l') u (nI m) 62 0 400 S (by omega) (by omega)
        have hR1 := h.had i2
        have hk4 := h.2.2.1 k hk
        rw [sh4_x hk] at hk4
        by_cases m0 : m = 0
        · subst m0
          refine ⟨nI 0, _, _, ?_, ?_, hR1.torn (nI 0)⟩
          · simp (disch := omega) only [fX4_read, lt, jn, q_lit, q_bnd, q_cl, q_le, q_lt, q_eq, pk_mul, nI_add, q_sub, q_div, q_pos, q_neg, q_T, q_F, q_max0, q_flg1, q_flg0, q_min, q_min2, q_bit, q_some, h1, h3, q_win, t_whole0, look0, run0]
          · simp (disch := omega) only [fX5_read, lt, jn, q_lit, q_bnd, q_cl, q_le, q_lt, q_eq, pk_mul, nI_add, q_sub, q_div, q_pos, q_neg, q_T, q_F, q_max0, q_flg1, q_flg0, q_min, q_min2, q_bit, q_some, q_in_0_127, q_in_0_1, q_in_0_2, q_in_0_3, q_in_0_4, q_in_0_5, q_in_0_9, q_in_0_10, q_in_0_20, q_in_1_20, q_in_48_57, q_in_97_122, q_inB, h4, q_win, i1]
            rw [fX5_read_L62]
            simp (disch := omega) only [lt, jn, q_lit, q_bnd, q_cl, q_le, q_lt, q_eq, pk_mul, nI_add, q_sub, q_div, q_pos, q_neg, q_T, q_F, q_max0, q_flg1, q_flg0, q_min, q_min2, q_bit, q_some]
        · rcases hk4 with ⟨s0, s20⟩ | ⟨s0, l, n, hl, hn40, s1, s20, s2, s21, s3⟩
          · have s20' : S1 20 k = -nI 4 := by rw [i2 20 (by decide)]; exact s20
            have ef : fX2_faultAs (nI l') (X (6 + k)) = some (nI 1) := by
              simp (disch := omega) only [fX2_faultAs, lt, jn, q_lit, q_bnd, q_cl, q_le, q_lt, q_eq, pk_mul, nI_add, q_sub, q_div, q_pos, q_neg, q_T, q_F, q_max0, q_flg1, q_flg0, q_min, q_min2, q_bit, q_some, s0]
            have tw : ∀ kk, fX5_read_L77 (nI k) (nI l') u (nI m) (nI 0) (nI 0) S1 kk 400 (nI 0) (nI 0) = kk (nI 1) := by
              intro kk
              rw [fX5_read_L77]
              simp (disch := omega) only [lt, jn, q_lit, q_bnd, q_cl, q_le, q_lt, q_eq, pk_mul, nI_add, q_sub, q_div, q_pos, q_neg, q_T, q_F, q_max0, q_flg1, q_flg0, q_min, q_min2, q_bit, q_some, s20', q_T]
              rw [fX5_read_L77]
              simp (disch := omega) only [lt, jn, q_lit, q_bnd, q_cl, q_le, q_lt, q_eq, pk_mul, nI_add, q_sub, q_div, q_pos, q_neg, q_T, q_F, q_max0, q_flg1, q_flg0, q_min, q_min2, q_bit, q_some]
            refine ⟨nI 0, _, _, ?_, ?_, hR1.torn (nI 1)⟩
            · simp (disch := omega) only [fX4_read, lt, jn, q_lit, q_bnd, q_cl, q_le, q_lt, q_eq, pk_mul, nI_add, q_sub, q_div, q_pos, q_neg, q_T, q_F, q_max0, q_flg1, q_flg0, q_min, q_min2, q_bit, q_some, h1, h3, q_win, ef, look0, run0]
            · simp (disch := omega) only [fX5_read, lt, jn, q_lit, q_bnd, q_cl, q_le, q_lt, q_eq, pk_mul, nI_add, q_sub, q_div, q_pos, q_neg, q_T, q_F, q_max0, q_flg1, q_flg0, q_min, q_min2, q_bit, q_some, q_in_0_127, q_in_0_1, q_in_0_2, q_in_0_3, q_in_0_4, q_in_0_5, q_in_0_9, q_in_0_10, q_in_0_20, q_in_1_20, q_in_48_57, q_in_97_122, q_inB, h4, q_win, i1]
              rw [m_stop (g := 398) _ _ (r := 1) (by omega) hm (by omega) tw]
          · have s20' : S1 20 k = nI l := by rw [i2 20 (by decide)]; exact s20
            have s21' : S1 21 k = nI n := by rw [i2 21 (by decide)]; exact s21
            by_cases ell : l = l'
            · subst ell
              have ef : fX2_faultAs (nI l) (X (6 + k)) = some (nI 0) := by
                simp (disch := omega) only [fX2_faultAs, lt, jn, q_lit, q_bnd, q_cl, q_le, q_lt, q_eq, pk_mul, nI_add, q_sub, q_div, q_pos, q_neg, q_T, q_F, q_max0, q_flg1, q_flg0, q_min, q_min2, q_bit, q_some, s0, s1]
              rcases t_cell s0 s2 hn40 u with ⟨f0, hf0, rfl, hc⟩ | ⟨hu, hc⟩
              · obtain ⟨W, g1, g2, g3, g4, g5⟩ := t_whole_L (n := m) s0 s2 hn40 hf0 hm (fun p8 => some p8) m 0 400 (by omega) (by omega) (by omega)
                have ew : fX2_wholePairs (nI f0) (nI m) (X (6 + k)) = some (nI W) := g5
                have hX := hC.1.1
                have s3' : ∀ i, i < n → X (6 + k) 3 i = S1 22 (40 * k + i) := fun i hi => by rw [i2 22 (by decide)]; exact s3 i hi
                have a24 : ∀ y, y < 62 → S1 24 y = S 0 y := fun y hy => by rw [i3, if_pos (by omega)]
                have look := fun p16 kk => t_look_L (X := X) (k := k) (f0 := f0) (W := W) (sz := n) (p16 := p16) hk hn40 g3 hX w1.1 kk W 0 400 (by omega) (by omega)
                have runs := fun (T : Nat) (hT : T ≤ W) (p16 : Int32) k205 k250 kx (hok : ∀ i, 0 ≤ i → i < T → okPair (N 0 0) (X (6 + k) 3) (f0 + 2 * i)) => run_L (T := T) (p16 := p16) hk hl hn40 hf0 w1.1 (by omega) g3 m g2 hm hT k205 k250 kx T 0 (400 - T) (400 - T) X S1 (by omega) hR1 hX s20' s21' s3' hok
                obtain ⟨p, hp⟩ : ∃ p, p = if m ≤ W then nI 0 else nI 2 := ⟨_, rfl⟩
                have ex : fX4_read (nI k) (nI l) (nI f0) (nI m) X = fX4_read_L89 X (nI k) (nI f0) (nI W) p (fun _ => fX4_read_L153 (nI k) (nI f0) (nI W) p (fun p31 => some (nI W, va_up p31 0 (va_up (p31 0) 7 (fun _ => p)))) 400 (nI 0) X) 400 (nI 0) := by
                  by_cases e : m ≤ W
                  · rw [if_pos e] at hp
                    subst hp
                    simp (disch := omega) only [fX4_read, lt, jn, q_lit, q_bnd, q_cl, q_le, q_lt, q_eq, pk_mul, nI_add, q_sub, q_div, q_pos, q_neg, q_T, q_F, q_max0, q_flg1, q_flg0, q_min, q_min2, q_bit, q_some, h1, h3, q_win, ef, ew]
                  · rw [if_neg e] at hp
                    subst hp
                    simp (disch := omega) only [fX4_read, lt, jn, q_lit, q_bnd, q_cl, q_le, q_lt, q_eq, pk_mul, nI_add, q_sub, q_div, q_pos, q_neg, q_T, q_F, q_max0, q_flg1, q_flg0, q_min, q_min2, q_bit, q_some, h1, h3, q_win, ef, ew]
                have ey : fX5_read (nI k) (nI l) (nI f0) (nI m) S = fX5_read_L62 (nI k) (nI l) (nI f0) (nI m) (fun p39 => fX5_read_L208 p39 (fun p45 => some (-nI 20 - p39.1, p45)) 400 (nI 0) p39.2) (fun p46 => some (p46.2.1, va_up p46.2.2 23 (fun _ => p46.1))) 400 (nI 0) (nI 0) (nI 0) S1 := by
                  simp (disch := omega) only [fX5_read, lt, jn, q_lit, q_bnd, q_cl, q_le, q_lt, q_eq, pk_mul, nI_add, q_sub, q_div, q_pos, q_neg, q_T, q_F, q_max0, q_flg1, q_flg0, q_min, q_min2, q_bit, q_some, q_in_0_127, q_in_0_1, q_in_0_2, q_in_0_3, q_in_0_4, q_in_0_5, q_in_0_9, q_in_0_10, q_in_0_20, q_in_1_20, q_in_48_57, q_in_97_122, q_inB, h4, q_win, i1]
                rcases look p (fun _ => fX4_read_L153 (nI k) (nI f0) (nI W) p (fun p31 => some (nI W, va_up p31 0 (va_up (p31 0) 7 (fun _ => p)))) 400 (nI 0) X) with ⟨ok, eL⟩ | ⟨i0, -, b2, b3, b4, eL⟩
                · obtain ⟨X', S', r1, r2, r3, r4, r5, r6, r7⟩ := runs W (Nat.le_refl W) p (fun p39 => fX5_read_L208 p39 (fun p45 => some (-nI 20 - p39.1, p45)) 400 (nI 0) p39.2) (fun p46 => some (p46.2.1, va_up p46.2.2 23 (fun _ => p46.1))) (fun p31 => some (nI W, va_up p31 0 (va_up (p31 0) 7 (fun _ => p)))) ok
                  obtain ⟨g', hg⟩ : ∃ g', 400 - W = g' + 2 := ⟨398 - W, by omega⟩
                  have e400 : 400 - W + W = 400 := by omega
                  rw [e400, hg] at r1 r2
                  refine ⟨nI W, va_up X' 0 (va_up (X' 0) 7 (fun _ => p)), va_up S' 23 (fun _ => p), ?_, ?_, r3.torn p⟩
                  · rw [ex, eL, r1, fX4_read_L153]
                    simp (disch := omega) only [lt, jn, q_lit, q_bnd, q_cl, q_le, q_lt, q_eq, pk_mul, nI_add, q_sub, q_div, q_pos, q_neg, q_T, q_F, q_max0, q_flg1, q_flg0, q_min, q_min2, q_bit, q_some]
                  · rw [ey, r2]
                    have s20'' : S' 20 k = nI l := by rw [r6 20 (by decide) (by decide)]; exact s20'
                    have s21'' : S' 21 k = nI n := by rw [r6 21 (by decide) (by decide)]; exact s21'
                    by_cases e : m ≤ W
                    · rw [if_pos e] at hp
                      subst hp
                      rw [fX5_read_L62]
                      simp (disch := omega) only [lt, jn, q_lit, q_bnd, q_cl, q_le, q_lt, q_eq, pk_mul, nI_add, q_sub, q_div, q_pos, q_neg, q_T, q_F, q_max0, q_flg1, q_flg0, q_min, q_min2, q_bit, q_some]
                    · rw [if_neg e] at hp
                      subst hp
                      have tw := fun kk => m_two (f0 := f0) (t := W) hk hl s20'' s21'' hn40 (by omega) (by omega) (nI m) (nI W) kk
                      rw [if_neg (by omega)] at tw
                      rw [m_stop (g := g') _ _ (r := 2) (by omega) hm (by omega) tw]
                · obtain ⟨X', S', r1, r2, r3, r4, r5, r6, r7⟩ := runs i0 (by omega) p (fun p39 => fX5_read_L208 p39 (fun p45 => some (-nI 20 - p39.1, p45)) 400 (nI 0) p39.2) (fun p46 => some (p46.2.1, va_up p46.2.2 23 (fun _ => p46.1))) (fun p31 => some (nI W, va_up p31 0 (va_up (p31 0) 7 (fun _ => p)))) (fun i _ hi => b3 i (by omega) hi)
                  obtain ⟨g', hg⟩ : ∃ g', 400 - i0 = g' + 1 := ⟨399 - i0, by omega⟩
                  have e400 : 400 - i0 + i0 = 400 := by omega
                  rw [e400, hg] at r2
                  have s20'' : S' 20 k = nI l := by rw [r6 20 (by decide) (by decide)]; exact s20'
                  have s21'' : S' 21 k = nI n := by rw [r6 21 (by decide) (by decide)]; exact s21'
                  have s3'' : S' 3 0 = nI (N 0 0) := by rw [r6 3 (by decide) (by decide), i2 3 (by decide)]; exact e3
                  have tw := fun kk => m_two (f0 := f0) (t := i0) hk hl s20'' s21'' hn40 (by omega) (by omega) (nI m) (nI i0) kk
                  rw [if_pos (by omega)] at tw
                  have c1 : S' 22 (40 * k + f0 + 2 * i0) = X (6 + k) 3 (f0 + 2 * i0) := by
                    rw [s3' _ (by omega), r6 22 (by decide) (by decide)]
                    exact congrArg (S1 22) (by omega)
                  have c2 : S' 22 (40 * k + f0 + 2 * i0 + 1) = X (6 + k) 3 (f0 + 2 * i0 + 1) := by
                    rw [s3' _ (by omega), r6 22 (by decide) (by decide)]
                    exact congrArg (S1 22) (by omega)
                  have fb : fX5_fold (X (6 + k) 3 (f0 + 2 * i0)) (X (6 + k) 3 (f0 + 2 * i0 + 1)) S' = some (-nI 1, S') := by
                    rcases pair_cases hX w1.1 (X (6 + k) 3) (f0 + 2 * i0) with ⟨q1, -⟩ | ⟨-, q2⟩
                    · exact absurd q1 b4
                    · exact fold_bad s3'' hX _ _ q2
                  obtain ⟨S2, u1, u2, u3⟩ := m_un_L (nI i0, S') 62 0 400 S' (by omega) (by omega)
                  have f0' : S2 0 = S 0 := by
                    funext x
                    rw [u3]
                    by_cases hx : x < 62
                    · rw [if_pos (by omega), r6 24 (by decide) (by decide)]
                      exact a24 x hx
                    · rw [if_neg (by omega), r7 x (by omega), i2 0 (by decide)]
                  have hR2 : R X S2 := by
                    have hm1 : R X (va_up S 1 (S2 1)) := h.me fun q hq => by rw [q_up, if_neg hq]
                    refine hm1.had fun q hq => ?_
                    rw [q_up]
                    by_cases q1 : q = 1
                    · rw [if_pos q1, q1]
                    · rw [if_neg q1]
                      by_cases q0 : q = 0
                      · rw [q0]
                        exact f0'
                      · rw [u2 q q0, r6 q q0 q1, i2 q hq]
                  refine ⟨-nI 20 - nI i0, X, S2, ?_, ?_, hR2⟩
                  · rw [ex, eL]
                  · rw [ey, r2, fX5_read_L62]
                    simp (disch := omega) only [lt, jn, q_lit, q_bnd, q_cl, q_le, q_lt, q_eq, pk_mul, nI_add, q_neg, q_T, q_F, q_some, tw]
                    rw [c1, c2, fb, q_some, q_neg (show ¬ nI 0 ≤ -nI 1 by decide)]
                    rw [u1]
              · have tw := fun kk => m_out (S := S1) hk hl s20' s21' hn40 hu (nI m) (nI 0) kk
                have ew := t_wholeN (Q := X (6 + k)) (x := u) (m := m) (by omega) hc
                refine ⟨nI 0, _, _, ?_, ?_, hR1.torn (nI 2)⟩
                · simp (disch := omega) only [fX4_read, lt, jn, q_lit, q_bnd, q_cl, q_le, q_lt, q_eq, pk_mul, nI_add, q_sub, q_div, q_pos, q_neg, q_T, q_F, q_max0, q_flg1, q_flg0, q_min, q_min2, q_bit, q_some, h1, h3, q_win, ef, ew, look0, run0]
                · simp (disch := omega) only [fX5_read, lt, jn, q_lit, q_bnd, q_cl, q_le, q_lt, q_eq, pk_mul, nI_add, q_sub, q_div, q_pos, q_neg, q_T, q_F, q_max0, q_flg1, q_flg0, q_min, q_min2, q_bit, q_some, q_in_0_127, q_in_0_1, q_in_0_2, q_in_0_3, q_in_0_4, q_in_0_5, q_in_0_9, q_in_0_10, q_in_0_20, q_in_1_20, q_in_48_57, q_in_97_122, q_inB, h4, q_win, i1]
                  rw [m_stop (g := 398) _ _ (r := 2) (by omega) hm (by omega) tw]
            · have ef : fX2_faultAs (nI l') (X (6 + k)) = some (nI 3) := by
                simp (disch := omega) only [fX2_faultAs, lt, jn, q_lit, q_bnd, q_cl, q_le, q_lt, q_eq, pk_mul, nI_add, q_sub, q_div, q_pos, q_neg, q_T, q_F, q_max0, q_flg1, q_flg0, q_min, q_min2, q_bit, q_some, s0, s1]
              have tw : ∀ kk, fX5_read_L77 (nI k) (nI l') u (nI m) (nI 0) (nI 0) S1 kk 400 (nI 0) (nI 0) = kk (nI 3) := by
                intro kk
                have l4 := neg4 l hl
                rw [fX5_read_L77]
                simp (disch := omega) only [lt, jn, q_lit, q_bnd, q_cl, q_le, q_lt, q_eq, pk_mul, nI_add, q_sub, q_div, q_pos, q_neg, q_T, q_F, q_max0, q_flg1, q_flg0, q_min, q_min2, q_bit, q_some, s20', l4]
                rw [fX5_read_L77]
                simp (disch := omega) only [lt, jn, q_lit, q_bnd, q_cl, q_le, q_lt, q_eq, pk_mul, nI_add, q_sub, q_div, q_pos, q_neg, q_T, q_F, q_max0, q_flg1, q_flg0, q_min, q_min2, q_bit, q_some]
              refine ⟨nI 0, _, _, ?_, ?_, hR1.torn (nI 3)⟩
              · simp (disch := omega) only [fX4_read, lt, jn, q_lit, q_bnd, q_cl, q_le, q_lt, q_eq, pk_mul, nI_add, q_sub, q_div, q_pos, q_neg, q_T, q_F, q_max0, q_flg1, q_flg0, q_min, q_min2, q_bit, q_some, h1, h3, q_win, ef, look0, run0]
              · simp (disch := omega) only [fX5_read, lt, jn, q_lit, q_bnd, q_cl, q_le, q_lt, q_eq, pk_mul, nI_add, q_sub, q_div, q_pos, q_neg, q_T, q_F, q_max0, q_flg1, q_flg0, q_min, q_min2, q_bit, q_some, q_in_0_127, q_in_0_1, q_in_0_2, q_in_0_3, q_in_0_4, q_in_0_5, q_in_0_9, q_in_0_10, q_in_0_20, q_in_1_20, q_in_48_57, q_in_97_122, q_inB, h4, q_win, i1]
                rw [m_stop (g := 398) _ _ (r := 3) (by omega) hm (by omega) tw]
      · refine ⟨-1, X, S, ?_, ?_, h⟩
        · simp (disch := omega) only [fX4_read, lt, jn, q_lit, q_bnd, q_cl, q_le, q_lt, q_eq, pk_mul, nI_add, q_sub, q_div, q_pos, q_neg, q_T, q_F, q_max0, q_flg1, q_flg0, q_min, q_min2, q_bit, q_some, h1, h3, v2]
        · simp (disch := omega) only [fX5_read, lt, jn, q_lit, q_bnd, q_cl, q_le, q_lt, q_eq, pk_mul, nI_add, q_sub, q_div, q_pos, q_neg, q_T, q_F, q_max0, q_flg1, q_flg0, q_min, q_min2, q_bit, q_some, q_in_0_127, q_in_0_1, q_in_0_2, q_in_0_3, q_in_0_4, q_in_0_5, q_in_0_9, q_in_0_10, q_in_0_20, q_in_1_20, q_in_48_57, q_in_97_122, q_inB, h4, v2]
    · refine ⟨-1, X, S, ?_, ?_, h⟩
      · simp (disch := omega) only [fX4_read, lt, jn, q_lit, q_bnd, q_cl, q_le, q_lt, q_eq, pk_mul, nI_add, q_sub, q_div, q_pos, q_neg, q_T, q_F, q_max0, q_flg1, q_flg0, q_min, q_min2, q_bit, q_some, h1, h3]
      · simp (disch := omega) only [fX5_read, lt, jn, q_lit, q_bnd, q_cl, q_le, q_lt, q_eq, pk_mul, nI_add, q_sub, q_div, q_pos, q_neg, q_T, q_F, q_max0, q_flg1, q_flg0, q_min, q_min2, q_bit, q_some, h4]
  · refine ⟨-1, X, S, ?_, ?_, h⟩
    · simp (disch := omega) only [fX4_read, lt, jn, q_lit, q_bnd, q_cl, q_le, q_lt, q_eq, pk_mul, nI_add, q_sub, q_div, q_pos, q_neg, q_T, q_F, q_max0, q_flg1, q_flg0, q_min, q_min2, q_bit, q_some, h1]
    · simp (disch := omega) only [fX5_read, lt, jn, q_lit, q_bnd, q_cl, q_le, q_lt, q_eq, pk_mul, nI_add, q_sub, q_div, q_pos, q_neg, q_T, q_F, q_max0, q_flg1, q_flg0, q_min, q_min2, q_bit, q_some, h2]
end
section
/-! the text: bytes, tokens -/
def TB (c : Nat → Nat) (n : Nat) (T S : M2) : Prop := n ≤ 160 ∧ T 1 0 = nI n ∧ S 12 0 = nI n ∧ ∀ i, i < n → c i < 128 ∧ T 0 i = nI (c i) ∧ S 11 i = nI (c i)
theorem tb_of {T : M2} {tp : Nat → Int32} {s12 s17 : Int32} (h : RT T tp s12 s17) : ∃ (c : Nat → Nat) (n : Nat), n ≤ 160 ∧ T 1 0 = nI n ∧ s12 = nI n ∧ ∀ i, i < n → c i < 128 ∧ T 0 i = nI (c i) ∧ tp i = nI (c i) := by
  obtain ⟨⟨n, h1, h2, h3, h4⟩, -⟩ := h
  have : ∀ i, ∃ c, i < n → c < 128 ∧ T 0 i = nI c ∧ tp i = nI c := by
    intro i
    by_cases hi : i < n
    · obtain ⟨c, hc⟩ := h4 i hi
      exact ⟨c, fun _ => hc⟩
    · exact ⟨0, fun q => absurd q hi⟩
  have ⟨c, hc⟩ := Classical.axiomOfChoice this
  exact ⟨c, n, h1, h2, h3, hc⟩
theorem m_byte {c : Nat → Nat} {n : Nat} {T S : M2} (h : TB c n T S) {p : Nat} (hp : p < 2 ^ 30) : fX5_byteAt (nI p) S = some (if p < n then nI (c p) else -nI 1) := by
  obtain ⟨h1, h2, h3, h4⟩ := h
  by_cases e : p < n
  · simp (disch := omega) only [fX5_byteAt, lt, jn, q_lit, q_bnd, q_cl, q_le, q_lt, q_eq, pk_mul, nI_add, q_sub, q_div, q_pos, q_neg, q_T, q_F, q_max0, q_flg1, q_flg0, q_min, q_min2, q_bit, q_some, h3, (h4 p e).2.2]
  · simp (disch := omega) only [fX5_byteAt, lt, jn, q_lit, q_bnd, q_cl, q_le, q_lt, q_eq, pk_mul, nI_add, q_sub, q_div, q_pos, q_neg, q_T, q_F, q_max0, q_flg1, q_flg0, q_min, q_min2, q_bit, q_some, h3]
theorem let_t {ch : Nat} (h : ch < 128) : fX3_isLetter (nI ch) = some (nI (decide (97 ≤ ch ∧ ch ≤ 122)).toNat) := by
  by_cases e1 : ch < 97
  · simp (disch := omega) only [fX3_isLetter, lt, jn, q_lit, q_bnd, q_cl, q_le, q_lt, q_eq, pk_mul, nI_add, q_sub, q_div, q_pos, q_neg, q_T, q_F, q_max0, q_flg1, q_flg0, q_min, q_min2, q_bit, q_some]
    rw [decide_eq_false (by omega)]
    rfl
  · by_cases e2 : 122 < ch
    · simp (disch := omega) only [fX3_isLetter, lt, jn, q_lit, q_bnd, q_cl, q_le, q_lt, q_eq, pk_mul, nI_add, q_sub, q_div, q_pos, q_neg, q_T, q_F, q_max0, q_flg1, q_flg0, q_min, q_min2, q_bit, q_some]
      rw [decide_eq_false (by omega)]
      rfl
    · simp (disch := omega) only [fX3_isLetter, lt, jn, q_lit, q_bnd, q_cl, q_le, q_lt, q_eq, pk_mul, nI_add, q_sub, q_div, q_pos, q_neg, q_T, q_F, q_max0, q_flg1, q_flg0, q_min, q_min2, q_bit, q_some]
      rw [decide_eq_true (by omega)]
      rfl
theorem fig_t {ch : Nat} (h : ch < 128) : fX3_isFigure (nI ch) = some (nI (decide (48 ≤ ch ∧ ch ≤ 57)).toNat) := by
  by_cases e1 : ch < 48
  · simp (disch := omega) only [fX3_isFigure, lt, jn, q_lit, q_bnd, q_cl, q_le, q_lt, q_eq, pk_mul, nI_add, q_sub, q_div, q_pos, q_neg, q_T, q_F, q_max0, q_flg1, q_flg0, q_min, q_min2, q_bit, q_some]
    rw [decide_eq_false (by omega)]
    rfl
  · by_cases e2 : 57 < ch
    · simp (disch := omega) only [fX3_isFigure, lt, jn, q_lit, q_bnd, q_cl, q_le, q_lt, q_eq, pk_mul, nI_add, q_sub, q_div, q_pos, q_neg, q_T, q_F, q_max0, q_flg1, q_flg0, q_min, q_min2, q_bit, q_some]
      rw [decide_eq_false (by omega)]
      rfl
    · simp (disch := omega) only [fX3_isFigure, lt, jn, q_lit, q_bnd, q_cl, q_le, q_lt, q_eq, pk_mul, nI_add, q_sub, q_div, q_pos, q_neg, q_T, q_F, q_max0, q_flg1, q_flg0, q_min, q_min2, q_bit, q_some]
      rw [decide_eq_true (by omega)]
      rfl
theorem within_b {ch a b : Nat} (h : ch < 2 ^ 30 ∧ a < 2 ^ 30 ∧ b < 2 ^ 30) : fX4_within (nI ch) (nI a) (nI b) = some (nI (decide (a ≤ ch ∧ ch ≤ b)).toNat) := by
  by_cases e1 : ch < a
  · simp (disch := omega) only [fX4_within, lt, jn, q_lit, q_bnd, q_cl, q_le, q_lt, q_eq, pk_mul, nI_add, q_sub, q_div, q_pos, q_neg, q_T, q_F, q_max0, q_flg1, q_flg0, q_min, q_min2, q_bit, q_some]
    rw [decide_eq_false (by omega)]
    rfl
  · by_cases e2 : b < ch
    · simp (disch := omega) only [fX4_within, lt, jn, q_lit, q_bnd, q_cl, q_le, q_lt, q_eq, pk_mul, nI_add, q_sub, q_div, q_pos, q_neg, q_T, q_F, q_max0, q_flg1, q_flg0, q_min, q_min2, q_bit, q_some]
      rw [decide_eq_false (by omega)]
      rfl
    · simp (disch := omega) only [fX4_within, lt, jn, q_lit, q_bnd, q_cl, q_le, q_lt, q_eq, pk_mul, nI_add, q_sub, q_div, q_pos, q_neg, q_T, q_F, q_max0, q_flg1, q_flg0, q_min, q_min2, q_bit, q_some]
      rw [decide_eq_true (by omega)]
      rfl
theorem let_m {ch : Nat} (h : ch < 128) : fX5_in (nI ch).toInt64 97 122 = some (nI (decide (97 ≤ ch ∧ ch ≤ 122)).toNat) := by
  rw [q_in_97_122, within_b (by omega)]
theorem fig_m {ch : Nat} (h : ch < 128) : fX5_in (nI ch).toInt64 48 57 = some (nI (decide (48 ≤ ch ∧ ch ≤ 57)).toNat) := by
  rw [q_in_48_57, within_b (by omega)]
theorem let_1 : fX5_in (-nI 1).toInt64 97 122 = some (nI 0) := by decide
theorem fig_1 : fX5_in (-nI 1).toInt64 48 57 = some (nI 0) := by decide
/-- blanks -/
theorem blanks {c : Nat → Nat} {n : Nat} : ∀ (d p f g : Nat) (T S : M2), TB c n T S → p + d = n → d < f → d < g → T 5 0 = nI p → S 13 0 = nI p → ∃ (q : Nat) (T' S' : M2), p ≤ q ∧ q ≤ n ∧ (q < n → c q ≠ 32) ∧ (∀ kk : M2 → Option M2, fX3_nextToken_L0 kk f T = kk T') ∧ (∀ kk : M2 → Option M2, fX5_next_L8 kk g S = kk S') ∧ (∀ k, k ≠ 5 → T' k = T k) ∧ (∀ k, k ≠ 13 → S' k = S k) ∧ T' 5 0 = nI q ∧ S' 13 0 = nI q
  | 0, p, f + 1, g + 1, T, S, h, hp, hf, hg, t5, s13 => by
    have h1 := h.1
    have e : p = n := by omega
    refine ⟨p, T, S, by omega, by omega, fun q => by omega, fun kk => ?_, fun kk => ?_, fun _ _ => rfl, fun _ _ => rfl, t5, s13⟩
    · simp (disch := omega) only [fX3_nextToken_L0, lt, jn, q_lit, q_bnd, q_cl, q_le, q_lt, q_eq, pk_mul, nI_add, q_sub, q_div, q_pos, q_neg, q_T, q_F, q_max0, q_flg1, q_flg0, q_min, q_min2, q_bit, q_some, t5, h.2.1]
    · have := m_byte h (p := p) (by omega)
      rw [if_neg (by omega)] at this
      have e2 : ¬ -nI 1 = nI 32 := by decide
      simp (disch := omega) only [fX5_next_L8, lt, jn, q_lit, q_bnd, q_cl, q_le, q_lt, q_eq, pk_mul, nI_add, q_sub, q_div, q_pos, q_neg, q_T, q_F, q_max0, q_flg1, q_flg0, q_min, q_min2, q_bit, q_some, s13, this, e2]
  | d + 1, p, f + 1, g + 1, T, S, h, hp, hf, hg, t5, s13 => by
    have h1 := h.1
    have hb := m_byte h (p := p) (by omega)
    rw [if_pos (by omega)] at hb
    obtain ⟨c1, c2, c3⟩ := h.2.2.2 p (by omega)
    by_cases e : c p = 32
    · have hT : TB c n (va_up T 5 (fun _ => nI (p + 1))) (va_up S 13 (fun _ => nI (p + 1))) := h
      obtain ⟨q, T', S', g1, g2, g3, g4, g5, g6, g7, g8⟩ := blanks d (p + 1) f g _ _ hT (by omega) (by omega) (by omega) rfl rfl
      refine ⟨q, T', S', by omega, g2, g3, fun kk => ?_, fun kk => ?_, fun k hk => ?_, fun k hk => ?_, g8⟩
      · rw [← g4 kk]
        simp (disch := omega) only [fX3_nextToken_L0, lt, jn, q_lit, q_bnd, q_cl, q_le, q_lt, q_eq, pk_mul, nI_add, q_sub, q_div, q_pos, q_neg, q_T, q_F, q_max0, q_flg1, q_flg0, q_min, q_min2, q_bit, q_some, t5, h.2.1, c2, e]
      · rw [← g5 kk]
        simp (disch := omega) only [fX5_next_L8, lt, jn, q_lit, q_bnd, q_cl, q_le, q_lt, q_eq, pk_mul, nI_add, q_sub, q_div, q_pos, q_neg, q_T, q_F, q_max0, q_flg1, q_flg0, q_min, q_min2, q_bit, q_some, s13, hb, e]
      · rw [g6 k hk, q_up, if_neg hk]
      · rw [g7 k hk, q_up, if_neg hk]
    · refine ⟨p, T, S, by omega, by omega, fun _ => e, fun kk => ?_, fun kk => ?_, fun _ _ => rfl, fun _ _ => rfl, t5, s13⟩
      · simp (disch := omega) only [fX3_nextToken_L0, lt, jn, q_lit, q_bnd, q_cl, q_le, q_lt, q_eq, pk_mul, nI_add, q_sub, q_div, q_pos, q_neg, q_T, q_F, q_max0, q_flg1, q_flg0, q_min, q_min2, q_bit, q_some, t5, h.2.1, c2, e]
      · simp (disch := omega) only [fX5_next_L8, lt, jn, q_lit, q_bnd, q_cl, q_le, q_lt, q_eq, pk_mul, nI_add, q_sub, q_div, q_pos, q_neg, q_T, q_F, q_max0, q_flg1, q_flg0, q_min, q_min2, q_bit, q_some, s13, hb, e]
/-- letters -/
theorem letters {c : Nat → Nat} {n : Nat} : ∀ (d p f g : Nat) (T S : M2), TB c n T S → p + d = n → d < f → d < g → T 5 0 = nI p → S 13 0 = nI p → ∃ (q : Nat) (T' S' : M2), p ≤ q ∧ q ≤ n ∧ (∀ kk : M2 → Option M2, fX3_readName_L5 kk f T = kk T') ∧ (∀ kk : M2 → Option M2, fX5_next_L82 kk g S = kk S') ∧ (∀ k, k ≠ 5 → T' k = T k) ∧ (∀ k, k ≠ 13 → S' k = S k) ∧ T' 5 0 = nI q ∧ S' 13 0 = nI q
  | 0, p, f + 1, g + 1, T, S, h, hp, hf, hg, t5, s13 => by
    have h1 := h.1
    have e : p = n := by omega
    refine ⟨p, T, S, by omega, by omega, fun kk => ?_, fun kk => ?_, fun _ _ => rfl, fun _ _ => rfl, t5, s13⟩
    · simp (disch := omega) only [fX3_readName_L5, lt, jn, q_lit, q_bnd, q_cl, q_le, q_lt, q_eq, pk_mul, nI_add, q_sub, q_div, q_pos, q_neg, q_T, q_F, q_max0, q_flg1, q_flg0, q_min, q_min2, q_bit, q_some, t5, h.2.1]
    · have := m_byte h (p := p) (by omega)
      rw [if_neg (by omega)] at this
      simp (disch := omega) only [fX5_next_L82, lt, jn, q_lit, q_bnd, q_cl, q_le, q_lt, q_eq, pk_mul, nI_add, q_sub, q_div, q_pos, q_neg, q_T, q_F, q_max0, q_flg1, q_flg0, q_min, q_min2, q_bit, q_some, s13, this, let_1]
  | d + 1, p, f + 1, g + 1, T, S, h, hp, hf, hg, t5, s13 => by
    have h1 := h.1
    have hb := m_byte h (p := p) (by omega)
    rw [if_pos (by omega)] at hb
    obtain ⟨c1, c2, c3⟩ := h.2.2.2 p (by omega)
    have l1 := let_t c1
    have l2 := let_m c1
    by_cases e : 97 ≤ c p ∧ c p ≤ 122
    · rw [decide_eq_true e] at l1 l2
      have hT : TB c n (va_up T 5 (fun _ => nI (p + 1))) (va_up S 13 (fun _ => nI (p + 1))) := h
      obtain ⟨q, T', S', g1, g2, g4, g5, g6, g7, g8⟩ := letters d (p + 1) f g _ _ hT (by omega) (by omega) (by omega) rfl rfl
      refine ⟨q, T', S', by omega, g2, fun kk => ?_, fun kk => ?_, fun k hk => ?_, fun k hk => ?_, g8⟩
      · rw [← g4 kk]
        simp (disch := omega) only [fX3_readName_L5, lt, jn, q_lit, q_bnd, q_cl, q_le, q_lt, q_eq, pk_mul, nI_add, q_sub, q_div, q_pos, q_neg, q_T, q_F, q_max0, q_flg1, q_flg0, q_min, q_min2, q_bit, q_some, t5, h.2.1, c2, l1, Bool.toNat_true]
      · rw [← g5 kk]
        simp (disch := omega) only [fX5_next_L82, lt, jn, q_lit, q_bnd, q_cl, q_le, q_lt, q_eq, pk_mul, nI_add, q_sub, q_div, q_pos, q_neg, q_T, q_F, q_max0, q_flg1, q_flg0, q_min, q_min2, q_bit, q_some, s13, hb, l2, Bool.toNat_true]
      · rw [g6 k hk, q_up, if_neg hk]
      · rw [g7 k hk, q_up, if_neg hk]
    · rw [decide_eq_false e] at l1 l2
      refine ⟨p, T, S, by omega, by omega, fun kk => ?_, fun kk => ?_, fun _ _ => rfl, fun _ _ => rfl, t5, s13⟩
      · simp (disch := omega) only [fX3_readName_L5, lt, jn, q_lit, q_bnd, q_cl, q_le, q_lt, q_eq, pk_mul, nI_add, q_sub, q_div, q_pos, q_neg, q_T, q_F, q_max0, q_flg1, q_flg0, q_min, q_min2, q_bit, q_some, t5, h.2.1, c2, l1, Bool.toNat_false]
      · simp (disch := omega) only [fX5_next_L82, lt, jn, q_lit, q_bnd, q_cl, q_le, q_lt, q_eq, pk_mul, nI_add, q_sub, q_div, q_pos, q_neg, q_T, q_F, q_max0, q_flg1, q_flg0, q_min, q_min2, q_bit, q_some, s13, hb, l2, Bool.toNat_false]
/-- figures -/
theorem q_dig {v ch : Nat} (h : v < 10 ∧ 48 ≤ ch ∧ ch ≤ 57) : nI 10 * nI v + nI ch - nI 48 = nI (10 * v + ch - 48) := by
  rw [pk_mul, nI_add, q_sub (by omega)]
theorem figures {c : Nat → Nat} {n q : Nat} : ∀ (d p f g : Nat) (T S : M2), TB c n T S → p + d = n → q ≤ p → d < f → d < g → T 5 0 = nI p → S 13 0 = nI p → S 14 0 = nI q → (p ≤ q + 2 → ∃ v, v < 10 ^ (p - q) ∧ T 8 0 = nI v ∧ S 16 0 = nI v) → ∃ (p' : Nat) (T' S' : M2), p ≤ p' ∧ p' ≤ n ∧ (∀ kk : M2 → Option M2, fX3_readNumber_L10 kk f T = kk T') ∧ (∀ kk : M2 → Option M2, fX5_next_L140 kk g S = kk S') ∧ (∀ k, k ≠ 5 → k ≠ 8 → T' k = T k) ∧ (∀ k, k ≠ 13 → k ≠ 16 → S' k = S k) ∧ T' 5 0 = nI p' ∧ S' 13 0 = nI p' ∧ (p' ≤ q + 2 → ∃ v, v < 100 ∧ T' 8 0 = nI v ∧ S' 16 0 = nI v)
  | 0, p, f + 1, g + 1, T, S, h, hp, hq, hf, hg, t5, s13, s14, hv => by
    have h1 := h.1
    have e : p = n := by omega
    refine ⟨p, T, S, by omega, by omega, fun kk => ?_, fun kk => ?_, fun _ _ _ => rfl, fun _ _ _ => rfl, t5, s13, fun h2 => ?_⟩
    · simp (disch := omega) only [fX3_readNumber_L10, lt, jn, q_lit, q_bnd, q_cl, q_le, q_lt, q_eq, pk_mul, nI_add, q_sub, q_div, q_pos, q_neg, q_T, q_F, q_max0, q_flg1, q_flg0, q_min, q_min2, q_bit, q_some, t5, h.2.1]
    · have := m_byte h (p := p) (by omega)
      rw [if_neg (by omega)] at this
      simp (disch := omega) only [fX5_next_L140, lt, jn, q_lit, q_bnd, q_cl, q_le, q_lt, q_eq, pk_mul, nI_add, q_sub, q_div, q_pos, q_neg, q_T, q_F, q_max0, q_flg1, q_flg0, q_min, q_min2, q_bit, q_some, s13, this, fig_1]
    · obtain ⟨v, v1, v2⟩ := hv h2
      have : 10 ^ (p - q) ≤ 10 ^ 2 := Nat.pow_le_pow_right (by decide) (by omega)
      exact ⟨v, by omega, v2⟩
  | d + 1, p, f + 1, g + 1, T, S, h, hp, hq, hf, hg, t5, s13, s14, hv => by
    have h1 := h.1
    have hb := m_byte h (p := p) (by omega)
    rw [if_pos (by omega)] at hb
    obtain ⟨c1, c2, c3⟩ := h.2.2.2 p (by omega)
    have l1 := fig_t c1
    have l2 := fig_m c1
    by_cases e : 48 ≤ c p ∧ c p ≤ 57
    · rw [decide_eq_true e] at l1 l2
      by_cases e2 : p < q + 2
      · obtain ⟨v, v1, v2, v3⟩ := hv (by omega)
        have hv10 : v < 10 := by
          have : 10 ^ (p - q) ≤ 10 ^ 1 := Nat.pow_le_pow_right (by decide) (by omega)
          omega
        have hd : 10 * v + c p - 48 < 10 ^ (p + 1 - q) := by
          rw [show p + 1 - q = p - q + 1 by omega, Nat.pow_succ]
          omega
        have hT : TB c n (va_up (va_up T 8 (fun _ => nI (10 * v + c p - 48))) 5 (fun _ => nI (p + 1))) (va_up (va_up S 16 (fun _ => nI (10 * v + c p - 48))) 13 (fun _ => nI (p + 1))) := h
        obtain ⟨p', T', S', g1, g2, g4, g5, g6, g7, g8⟩ := figures (q := q) d (p + 1) f g _ _ hT (by omega) (by omega) (by omega) (by omega) rfl rfl s14 (fun _ => ⟨_, hd, rfl, rfl⟩)
        refine ⟨p', T', S', by omega, g2, fun kk => ?_, fun kk => ?_, fun k hk hk2 => ?_, fun k hk hk2 => ?_, g8⟩
        · rw [← g4 kk]
          simp (disch := omega) only [fX3_readNumber_L10, lt, q_lit, q_le, q_neg, q_bnd, q_cl, q_some, q_eq, t5, h.2.1, c2, l1, Bool.toNat_true, v2, q_dig, q_up, nI_add]
        · rw [← g5 kk]
          simp (disch := omega) only [fX5_next_L140, lt, jn, q_lit, q_le, q_neg, q_bnd, q_cl, q_some, q_eq, q_sub, s13, s14, hb, l2, Bool.toNat_true, v3, q_dig, q_up, nI_add]
        · rw [g6 k hk hk2, q_up, if_neg hk, q_up, if_neg hk2]
        · rw [g7 k hk hk2, q_up, if_neg hk, q_up, if_neg hk2]
      · have hT : TB c n (va_up (va_up T 8 (fun _ => nI 10 * T 8 0 + nI (c p) - nI 48)) 5 (fun _ => nI (p + 1))) (va_up (va_up S 16 (fun _ => S 16 0)) 13 (fun _ => nI (p + 1))) := h
        obtain ⟨p', T', S', g1, g2, g4, g5, g6, g7, g8⟩ := figures (q := q) d (p + 1) f g _ _ hT (by omega) (by omega) (by omega) (by omega) rfl rfl s14 (fun _ => by omega)
        refine ⟨p', T', S', by omega, g2, fun kk => ?_, fun kk => ?_, fun k hk hk2 => ?_, fun k hk hk2 => ?_, g8⟩
        · rw [← g4 kk]
          simp (disch := omega) only [fX3_readNumber_L10, lt, q_lit, q_le, q_neg, q_bnd, q_cl, q_some, q_eq, t5, h.2.1, c2, l1, Bool.toNat_true, q_up, nI_add]
        · rw [← g5 kk]
          simp (disch := omega) only [fX5_next_L140, lt, jn, q_lit, q_le, q_neg, q_pos, q_bnd, q_cl, q_some, q_eq, q_sub, s13, s14, hb, l2, Bool.toNat_true, q_up, nI_add]
        · rw [g6 k hk hk2, q_up, if_neg hk, q_up, if_neg hk2]
        · rw [g7 k hk hk2, q_up, if_neg hk, q_up, if_neg hk2]
    · rw [decide_eq_false e] at l1 l2
      refine ⟨p, T, S, by omega, by omega, fun kk => ?_, fun kk => ?_, fun _ _ _ => rfl, fun _ _ _ => rfl, t5, s13, fun h2 => ?_⟩
      · simp (disch := omega) only [fX3_readNumber_L10, lt, jn, q_lit, q_bnd, q_cl, q_le, q_lt, q_eq, pk_mul, nI_add, q_sub, q_div, q_pos, q_neg, q_T, q_F, q_max0, q_flg1, q_flg0, q_min, q_min2, q_bit, q_some, t5, h.2.1, c2, l1, Bool.toNat_false]
      · simp (disch := omega) only [fX5_next_L140, lt, jn, q_lit, q_bnd, q_cl, q_le, q_lt, q_eq, pk_mul, nI_add, q_sub, q_div, q_pos, q_neg, q_T, q_F, q_max0, q_flg1, q_flg0, q_min, q_min2, q_bit, q_some, s13, hb, l2, Bool.toNat_false]
      · obtain ⟨v, v1, v2⟩ := hv h2
        have : 10 ^ (p - q) ≤ 10 ^ 2 := Nat.pow_le_pow_right (by decide) (by omega)
        exact ⟨v, by omega, v2⟩
def TF (T T' : M2) : Prop := ∀ k, k ≠ 2 → k ≠ 3 → k ≠ 5 → k ≠ 6 → k ≠ 7 → k ≠ 8 → T' k = T k
def SF (S S' : M2) : Prop := ∀ k, k ≠ 13 → k ≠ 14 → k ≠ 15 → k ≠ 16 → k ≠ 17 → k ≠ 18 → S' k = S k
def TOK (tk n q p : Nat) (T S : M2) : Prop := T 2 0 = nI 0 ∧ S 17 0 = nI 0 ∧ T 5 0 = nI p ∧ S 13 0 = nI p ∧ T 7 0 = nI q ∧ S 14 0 = nI q ∧ q ≤ p ∧ p ≤ n ∧ T 6 0 = nI tk ∧ S 15 0 = nI (if tk = 4 then 0 else tk) ∧ (1 ≤ tk ∧ tk ≤ 4) ∧ (tk = 4 → q = n) ∧ (tk = 3 → p = q + 1) ∧ (tk = 2 → ∃ v, v < 100 ∧ T 8 0 = nI v ∧ S 16 0 = nI v)
def BD (e pl : Nat) (T S : M2) : Prop := T 2 0 = nI e ∧ S 17 0 = nI e ∧ 0 < e ∧ e < 10 ∧ T 3 0 = nI pl ∧ S 18 0 = nI pl
theorem nx {c : Nat → Nat} {n p : Nat} {T S : M2} (h : TB c n T S) (hp : p ≤ n) (t2 : T 2 0 = nI 0) (s17 : S 17 0 = nI 0) (t5 : T 5 0 = nI p) (s13 : S 13 0 = nI p) : ∃ T' S', fX3_nextToken T = some T' ∧ fX5_next S = some S' ∧ TF T T' ∧ SF S S' ∧ ((∃ tk q p', p ≤ q ∧ TOK tk n q p' T' S') ∨ ∃ pl, BD 1 pl T' S' ∧ T' 6 0 = nI 5) := by
  have h1 := h.1
  obtain ⟨q, T1, S1, b1, b2, b3, b4, b5, b6, b7, b8, b9⟩ := blanks (n - p) p 400 400 T S h (by omega) (by omega) (by omega) t5 s13
  have hT : TB c n (va_up T1 7 (fun _ => nI q)) (va_up S1 14 (fun _ => nI q)) := by
    refine ⟨h1, ?_, ?_, fun i hi => ?_⟩
    · show T1 1 0 = _
      rw [b6 1 (by decide)]
      exact h.2.1
    · show S1 12 0 = _
      rw [b7 12 (by decide)]
      exact h.2.2.1
    · show _ ∧ T1 0 i = _ ∧ S1 11 i = _
      rw [b6 0 (by decide), b7 11 (by decide)]
      exact h.2.2.2 i hi
  have t1 : T1 1 0 = nI n := hT.2.1
  have t2' : T1 2 0 = nI 0 := by rw [b6 2 (by decide)]; exact t2
  have s17' : S1 17 0 = nI 0 := by rw [b7 17 (by decide)]; exact s17
  have hb := m_byte hT (p := q) (by omega)
  by_cases e : q < n
  · rw [if_pos e] at hb
    obtain ⟨c1, c2, c3⟩ := hT.2.2.2 q e
    have c2' : T1 0 q = nI (c q) := c2
    have l1 := let_t c1
    have l2 := let_m c1
    have f1 := fig_t c1
    have f2 := fig_m c1
    by_cases el : 97 ≤ c q ∧ c q ≤ 122
    · rw [decide_eq_true el] at l1 l2
      obtain ⟨p', T2, S2, g1, g2, g4, g5, g6, g7, g8, g9⟩ := letters (c := c) (n := n) (n - q) q 400 400 (va_up (va_up T1 7 (fun _ => nI q)) 6 (fun _ => nI 1)) (va_up (va_up S1 14 (fun _ => nI q)) 15 (fun _ => nI 1)) hT (by omega) (by omega) (by omega) b8 b9
      refine ⟨T2, S2, ?_, ?_, ?_, ?_, Or.inl ⟨1, q, p', b1, ?_, ?_, g8, g9, ?_, ?_, g1, g2, ?_, ?_, by omega, by omega, by omega, by omega⟩⟩
      · have g4' : fX3_readName (va_up T1 7 (fun _ => nI q)) = some T2 := by
          unfold fX3_readName
          rw [q_ltn]
          exact g4 _
        simp (disch := omega) only [fX3_nextToken, lt, jn, q_lit, q_bnd, q_cl, q_le, q_lt, q_eq, pk_mul, nI_add, q_sub, q_div, q_pos, q_neg, q_T, q_F, q_max0, q_flg1, q_flg0, q_min, q_min2, q_bit, q_some, b4, b8, q_up, t1, c2', l1, Bool.toNat_true, g4']
      · simp (disch := omega) only [fX5_next, lt, jn, q_lit, q_bnd, q_cl, q_le, q_lt, q_eq, pk_mul, nI_add, q_sub, q_div, q_pos, q_neg, q_T, q_F, q_max0, q_flg1, q_flg0, q_min, q_min2, q_bit, q_some, s17, b5, b9, q_up, hb, l2, Bool.toNat_true, g5]
      · intro k k2 k3 k5 k6 k7 k8
        rw [g6 k k5, q_up, if_neg k6, q_up, if_neg k7, b6 k k5]
      · intro k k13 k14 k15 k16 k17 k18
        rw [g7 k k13, q_up, if_neg k15, q_up, if_neg k14, b7 k k13]
      · rw [g6 2 (by decide)]
        exact t2'
      · rw [g7 17 (by decide)]
        exact s17'
      · rw [g6 7 (by decide)]
        rfl
      · rw [g7 14 (by decide)]
        rfl
      · rw [g6 6 (by decide)]
        rfl
      · rw [g7 15 (by decide)]
        rfl
    · rw [decide_eq_false el] at l1 l2
      by_cases ef : 48 ≤ c q ∧ c q ≤ 57
      · rw [decide_eq_true ef] at f1 f2
        obtain ⟨p', T2, S2, g1, g2, g4, g5, g6, g7, g8, g9, g10⟩ := figures (c := c) (n := n) (q := q) (n - q) q 400 400 (va_up (va_up (va_up T1 7 (fun _ => nI q)) 6 (fun _ => nI 2)) 8 (fun _ => nI 0)) (va_up (va_up (va_up S1 14 (fun _ => nI q)) 15 (fun _ => nI 2)) 16 (fun _ => nI 0)) hT (by omega) (by omega) (by omega) (by omega) b8 b9 rfl (fun _ => ⟨0, by rw [Nat.sub_self]; decide, rfl, rfl⟩)
        have t7 : T2 7 0 = nI q := by rw [g6 7 (by decide) (by decide)]; rfl
        have s14 : S2 14 0 = nI q := by rw [g7 14 (by decide) (by decide)]; rfl
        have t2'' : T2 2 0 = nI 0 := by rw [g6 2 (by decide) (by decide)]; exact t2'
        have s17'' : S2 17 0 = nI 0 := by rw [g7 17 (by decide) (by decide)]; exact s17'
        have hTF : TF T T2 := by
          intro k k2 k3 k5 k6 k7 k8
          rw [g6 k k5 k8, q_up, if_neg k8, q_up, if_neg k6, q_up, if_neg k7, b6 k k5]
        have hSF : SF S S2 := by
          intro k k13 k14 k15 k16 k17 k18
          rw [g7 k k13 k16, q_up, if_neg k16, q_up, if_neg k15, q_up, if_neg k14, b7 k k13]
        by_cases e3 : p' ≤ q + 2
        · refine ⟨T2, S2, ?_, ?_, hTF, hSF, Or.inl ⟨2, q, p', b1, t2'', s17'', g8, g9, t7, s14, g1, g2, ?_, ?_, by omega, by omega, by omega, fun _ => g10 e3⟩⟩
          · have g4' : fX3_readNumber (va_up T1 7 (fun _ => nI q)) = some T2 := by
              unfold fX3_readNumber
              rw [q_ltn, q_ltn]
              refine (g4 _).trans ?_
              simp (disch := omega) only [lt, jn, q_lit, q_bnd, q_cl, q_le, q_lt, q_eq, pk_mul, nI_add, q_sub, q_div, q_pos, q_neg, q_T, q_F, q_max0, q_flg1, q_flg0, q_min, q_min2, q_bit, q_some, g8, t7]
            simp (disch := omega) only [fX3_nextToken, lt, jn, q_lit, q_bnd, q_cl, q_le, q_lt, q_eq, pk_mul, nI_add, q_sub, q_div, q_pos, q_neg, q_T, q_F, q_max0, q_flg1, q_flg0, q_min, q_min2, q_bit, q_some, b4, b8, q_up, t1, c2', l1, f1, Bool.toNat_true, Bool.toNat_false, g4']
          · simp (disch := omega) only [fX5_next, fX5_needs, lt, jn, q_lit, q_bnd, q_cl, q_le, q_lt, q_eq, pk_mul, nI_add, q_sub, q_div, q_pos, q_neg, q_T, q_F, q_max0, q_flg1, q_flg0, q_min, q_min2, q_bit, q_some, s17, b5, b9, q_up, hb, l2, f2, Bool.toNat_true, Bool.toNat_false, g5, g9, s14]
          · rw [g6 6 (by decide) (by decide)]
            rfl
          · rw [g7 15 (by decide) (by decide)]
            rfl
        · refine ⟨va_up (va_up (va_up T2 6 (fun _ => nI 5)) 2 (fun _ => nI 1)) 3 (fun _ => nI q), va_up (va_up S2 17 (fun _ => nI 1)) 18 (fun _ => nI q), ?_, ?_, ?_, ?_, Or.inr ⟨q, ⟨rfl, rfl, by omega, by omega, rfl, rfl⟩, rfl⟩⟩
          · have g4' : fX3_readNumber (va_up T1 7 (fun _ => nI q)) = some (va_up (va_up (va_up T2 6 (fun _ => nI 5)) 2 (fun _ => nI 1)) 3 (fun _ => nI q)) := by
              unfold fX3_readNumber
              rw [q_ltn, q_ltn]
              refine (g4 _).trans ?_
              simp (disch := omega) only [fX3_refuse, lt, jn, q_lit, q_bnd, q_cl, q_le, q_lt, q_eq, pk_mul, nI_add, q_sub, q_div, q_pos, q_neg, q_T, q_F, q_max0, q_flg1, q_flg0, q_min, q_min2, q_bit, q_some, g8, t7, q_up, t2'']
            simp (disch := omega) only [fX3_nextToken, lt, jn, q_lit, q_bnd, q_cl, q_le, q_lt, q_eq, pk_mul, nI_add, q_sub, q_div, q_pos, q_neg, q_T, q_F, q_max0, q_flg1, q_flg0, q_min, q_min2, q_bit, q_some, b4, b8, q_up, t1, c2', l1, f1, Bool.toNat_true, Bool.toNat_false, g4']
          · simp (disch := omega) only [fX5_next, fX5_needs, lt, jn, q_lit, q_bnd, q_cl, q_le, q_lt, q_eq, pk_mul, nI_add, q_sub, q_div, q_pos, q_neg, q_T, q_F, q_max0, q_flg1, q_flg0, q_min, q_min2, q_bit, q_some, s17, b5, b9, q_up, hb, l2, f2, Bool.toNat_true, Bool.toNat_false, g5, g9, s14, s17'']
          · intro k k2 k3 k5 k6 k7 k8
            rw [q_up, if_neg k3, q_up, if_neg k2, q_up, if_neg k6]
            exact hTF k k2 k3 k5 k6 k7 k8
          · intro k k13 k14 k15 k16 k17 k18
            rw [q_up, if_neg k18, q_up, if_neg k17]
            exact hSF k k13 k14 k15 k16 k17 k18
      · rw [decide_eq_false ef] at f1 f2
        by_cases es : c q = 59
        · rw [es] at l1 l2 f1 f2
          refine ⟨va_up (va_up (va_up T1 7 (fun _ => nI q)) 6 (fun _ => nI 3)) 5 (fun _ => nI (q + 1)), va_up (va_up (va_up S1 14 (fun _ => nI q)) 15 (fun _ => nI 3)) 13 (fun _ => nI (q + 1)), ?_, ?_, ?_, ?_, Or.inl ⟨3, q, q + 1, b1, t2', s17', rfl, rfl, rfl, rfl, by omega, by omega, rfl, rfl, by omega, by omega, by omega, by omega⟩⟩
          · simp (disch := omega) only [fX3_nextToken, lt, jn, q_lit, q_bnd, q_cl, q_le, q_lt, q_eq, pk_mul, nI_add, q_sub, q_div, q_pos, q_neg, q_T, q_F, q_max0, q_flg1, q_flg0, q_min, q_min2, q_bit, q_some, b4, b8, q_up, t1, c2', l1, f1, Bool.toNat_true, Bool.toNat_false, es]
          · simp (disch := omega) only [fX5_next, fX5_needs, lt, jn, q_lit, q_bnd, q_cl, q_le, q_lt, q_eq, pk_mul, nI_add, q_sub, q_div, q_pos, q_neg, q_T, q_F, q_max0, q_flg1, q_flg0, q_min, q_min2, q_bit, q_some, s17, b5, b9, q_up, hb, l2, f2, Bool.toNat_true, Bool.toNat_false, es]
          · intro k k2 k3 k5 k6 k7 k8
            rw [q_up, if_neg k5, q_up, if_neg k6, q_up, if_neg k7, b6 k k5]
          · intro k k13 k14 k15 k16 k17 k18
            rw [q_up, if_neg k13, q_up, if_neg k15, q_up, if_neg k14, b7 k k13]
        · refine ⟨va_up (va_up (va_up (va_up T1 7 (fun _ => nI q)) 6 (fun _ => nI 5)) 2 (fun _ => nI 1)) 3 (fun _ => nI q), va_up (va_up (va_up (va_up (va_up S1 14 (fun _ => nI q)) 15 (fun _ => nI 3)) 17 (fun _ => nI 1)) 18 (fun _ => nI q)) 13 (fun _ => nI (q + 1)), ?_, ?_, ?_, ?_, Or.inr ⟨q, ⟨rfl, rfl, by omega, by omega, rfl, rfl⟩, rfl⟩⟩
          · simp (disch := omega) only [fX3_nextToken, fX3_refuse, lt, jn, q_lit, q_bnd, q_cl, q_le, q_lt, q_eq, pk_mul, nI_add, q_sub, q_div, q_pos, q_neg, q_T, q_F, q_max0, q_flg1, q_flg0, q_min, q_min2, q_bit, q_some, b4, b8, q_up, t1, c2', l1, f1, Bool.toNat_true, Bool.toNat_false, es, t2']
          · simp (disch := omega) only [fX5_next, fX5_needs, lt, jn, q_lit, q_bnd, q_cl, q_le, q_lt, q_eq, pk_mul, nI_add, q_sub, q_div, q_pos, q_neg, q_T, q_F, q_max0, q_flg1, q_flg0, q_min, q_min2, q_bit, q_some, s17, b5, b9, q_up, hb, l2, f2, Bool.toNat_true, Bool.toNat_false, es, s17']
          · intro k k2 k3 k5 k6 k7 k8
            rw [q_up, if_neg k3, q_up, if_neg k2, q_up, if_neg k6, q_up, if_neg k7, b6 k k5]
          · intro k k13 k14 k15 k16 k17 k18
            rw [q_up, if_neg k13, q_up, if_neg k18, q_up, if_neg k17, q_up, if_neg k15, q_up, if_neg k14, b7 k k13]
  · rw [if_neg e] at hb
    refine ⟨va_up (va_up T1 7 (fun _ => nI q)) 6 (fun _ => nI 4), va_up (va_up S1 14 (fun _ => nI q)) 15 (fun _ => nI 0), ?_, ?_, ?_, ?_, Or.inl ⟨4, q, q, b1, t2', s17', b8, b9, rfl, rfl, by omega, by omega, rfl, rfl, by omega, by omega, by omega, by omega⟩⟩
    · simp (disch := omega) only [fX3_nextToken, lt, jn, q_lit, q_bnd, q_cl, q_le, q_lt, q_eq, pk_mul, nI_add, q_sub, q_div, q_pos, q_neg, q_T, q_F, q_max0, q_flg1, q_flg0, q_min, q_min2, q_bit, q_some, b4, b8, q_up, t1]
    · have e5 : ¬ nI 0 ≤ -nI 1 := by decide
      simp (disch := omega) only [fX5_next, lt, jn, q_lit, q_bnd, q_cl, q_le, q_lt, q_eq, pk_mul, nI_add, q_sub, q_div, q_pos, q_neg, q_T, q_F, q_max0, q_flg1, q_flg0, q_min, q_min2, q_bit, q_some, s17, b5, b9, q_up, hb, e5, q_F]
    · intro k k2 k3 k5 k6 k7 k8
      rw [q_up, if_neg k6, q_up, if_neg k7, b6 k k5]
    · intro k k13 k14 k15 k16 k17 k18
      rw [q_up, if_neg k15, q_up, if_neg k14, b7 k k13]
end
section
/-! names -/
def ck (c : Nat → Nat) (q : Nat) (w : List Nat) : Nat → Nat → Bool
  | 0, _ => true
  | d + 1, v => decide (c (q + v) = w.getD v 0) && ck c q w d (v + 1)
def wd : List (List Nat) := [[98, 111, 108, 116], [112, 108, 97, 105, 110], [112, 105, 99, 107, 121], [103, 108, 117, 116, 116, 111, 110], [102, 97, 116], [99, 97, 109, 112, 104, 111, 114], [109, 111, 111, 110], [114, 97, 116, 101]]
def mt (c : Nat → Nat) (q p k : Nat) : Bool := decide (p - q = (wd.getD k []).length) && ck c q (wd.getD k []) (wd.getD k []).length 0
theorem wd_ok : ∀ k, k < 8 → jj_len.getD k 0 = (wd.getD k []).length ∧ (wd.getD k []).length ≤ 7 ∧ ∀ i, i < (wd.getD k []).length → (jj_byt.getD k []).getD i 0 = nI ((wd.getD k []).getD i 0) ∧ (wd.getD k []).getD i 0 < 128 := by decide +kernel
theorem j_len {k : Nat} (hk : k < 8) : fJ0_length_8abf5 k = some (nI (wd.getD k []).length) := by
  rw [← (wd_ok k hk).1]
  rfl
theorem j_at {k i : Nat} (hk : k < 8) (hi : i < (wd.getD k []).length) : fJ0_charAt_5068e k (nI i) = some (nI ((wd.getD k []).getD i 0)) := by
  obtain ⟨h1, h2, h3⟩ := wd_ok k hk
  unfold fJ0_charAt_5068e
  rw [q_bnd (by omega), q_cl (by omega), (h3 i hi).1]
theorem t_name_L {c : Nat → Nat} {n p q k : Nat} {T S : M2} (h : TB c n T S) (t7 : T 7 0 = nI q) (hk : k < 8) (hq : q + (wd.getD k []).length ≤ n) : ∀ (d v f : Nat), v + d = (wd.getD k []).length → d < f → fX3_isName_L20 T k (fun _ => some (1 : Int32)) f (nI v) = some (nI (ck c q (wd.getD k []) d v).toNat)
  | 0, v, f + 1, hv, hf => by
    obtain ⟨w1, w2, w3⟩ := wd_ok k hk
    simp (disch := omega) only [fX3_isName_L20, lt, jn, q_lit, q_bnd, q_cl, q_le, q_lt, q_eq, pk_mul, nI_add, q_sub, q_div, q_pos, q_neg, q_T, q_F, q_max0, q_flg1, q_flg0, q_min, q_min2, q_bit, q_some, j_len hk, ck, Bool.toNat_true]
  | d + 1, v, f + 1, hv, hf => by
    obtain ⟨w1, w2, w3⟩ := wd_ok k hk
    have h1 := h.1
    have ih := t_name_L (p := p) h t7 hk hq d (v + 1) f (by omega) (by omega)
    obtain ⟨c1, c2, c3⟩ := h.2.2.2 (q + v) (by omega)
    have ih' : fX3_isName_L20 T k (fun _ => some (nI 1)) f (nI (v + 1)) = some (nI (ck c q (wd.getD k []) d (v + 1)).toNat) := ih
    have hw := (w3 v (by omega)).2
    rw [ck]
    by_cases e : c (q + v) = (wd.getD k []).getD v 0
    · simp (disch := omega) only [fX3_isName_L20, lt, jn, q_lit, q_bnd, q_cl, q_le, q_lt, q_eq, pk_mul, nI_add, q_sub, q_div, q_pos, q_neg, q_T, q_F, q_max0, q_flg1, q_flg0, q_min, q_min2, q_bit, q_some, j_len hk, j_at hk, t7, c2, e, ih', decide_true, Bool.true_and]
    · simp (disch := omega) only [fX3_isName_L20, lt, jn, q_lit, q_bnd, q_cl, q_le, q_lt, q_eq, pk_mul, nI_add, q_sub, q_div, q_pos, q_neg, q_T, q_F, q_max0, q_flg1, q_flg0, q_min, q_min2, q_bit, q_some, j_len hk, j_at hk, t7, c2, e, decide_false, Bool.false_and, Bool.toNat_false]
theorem t_name {c : Nat → Nat} {n p q k : Nat} {T S : M2} (h : TB c n T S) (t5 : T 5 0 = nI p) (t7 : T 7 0 = nI q) (hqp : q ≤ p) (hpn : p ≤ n) (hk : k < 8) : fX3_isName k T = some (nI (mt c q p k).toNat) := by
  obtain ⟨w1, w2, w3⟩ := wd_ok k hk
  have h1 := h.1
  unfold mt
  by_cases e : p - q = (wd.getD k []).length
  · have := t_name_L (p := p) h t7 hk (by omega) (wd.getD k []).length 0 400 (by omega) (by omega)
    rw [decide_eq_true e, Bool.true_and, ← this]
    simp (disch := omega) only [fX3_isName, lt, jn, q_lit, q_bnd, q_cl, q_le, q_lt, q_eq, pk_mul, nI_add, q_sub, q_div, q_pos, q_neg, q_T, q_F, q_max0, q_flg1, q_flg0, q_min, q_min2, q_bit, q_some, j_len hk, t5, t7]
  · rw [decide_eq_false e, Bool.false_and]
    simp (disch := omega) only [fX3_isName, lt, jn, q_lit, q_bnd, q_cl, q_le, q_lt, q_eq, pk_mul, nI_add, q_sub, q_div, q_pos, q_neg, q_T, q_F, q_max0, q_flg1, q_flg0, q_min, q_min2, q_bit, q_some, j_len hk, t5, t7, Bool.toNat_false]
theorem m_is {c : Nat → Nat} {n p q L a b e : Nat} {T S : M2} (h : TB c n T S) (s13 : S 13 0 = nI p) (s14 : S 14 0 = nI q) (hqp : q ≤ p) (hpn : p ≤ n) (hL : 3 ≤ L ∧ L < 100) (hc : a < 128 ∧ b < 128 ∧ e < 128) : (fX5_is (nI L) (nI a) (nI b) (nI e) S = some (nI 1) ∧ p - q = L ∧ c q = a ∧ c (q + 1) = b ∧ c (q + 2) = e) ∨ (fX5_is (nI L) (nI a) (nI b) (nI e) S = some (nI 0) ∧ ¬ (p - q = L ∧ c q = a ∧ c (q + 1) = b ∧ c (q + 2) = e)) := by
  have h1 := h.1
  by_cases e1 : p - q = L
  · have b0 := m_byte h (p := q) (by omega)
    have b1 := m_byte h (p := q + 1) (by omega)
    have b2 := m_byte h (p := q + 2) (by omega)
    have c0 := (h.2.2.2 q (by omega)).1
    have c1 := (h.2.2.2 (q + 1) (by omega)).1
    have c2 := (h.2.2.2 (q + 2) (by omega)).1
    rw [if_pos (by omega)] at b0 b1 b2
    by_cases e2 : c q = a
    · by_cases e3 : c (q + 1) = b
      · by_cases e4 : c (q + 2) = e
        · refine Or.inl ⟨?_, e1, e2, e3, e4⟩
          simp (disch := omega) only [fX5_is, lt, jn, q_lit, q_bnd, q_cl, q_le, q_lt, q_eq, pk_mul, nI_add, q_sub, q_div, q_pos, q_neg, q_T, q_F, q_max0, q_flg1, q_flg0, q_min, q_min2, q_bit, q_some, s13, s14, b0, b1, b2]
        · refine Or.inr ⟨?_, fun g => e4 g.2.2.2⟩
          simp (disch := omega) only [fX5_is, lt, jn, q_lit, q_bnd, q_cl, q_le, q_lt, q_eq, pk_mul, nI_add, q_sub, q_div, q_pos, q_neg, q_T, q_F, q_max0, q_flg1, q_flg0, q_min, q_min2, q_bit, q_some, s13, s14, b0, b1, b2]
      · refine Or.inr ⟨?_, fun g => e3 g.2.2.1⟩
        simp (disch := omega) only [fX5_is, lt, jn, q_lit, q_bnd, q_cl, q_le, q_lt, q_eq, pk_mul, nI_add, q_sub, q_div, q_pos, q_neg, q_T, q_F, q_max0, q_flg1, q_flg0, q_min, q_min2, q_bit, q_some, s13, s14, b0, b1, b2]
    · refine Or.inr ⟨?_, fun g => e2 g.2.1⟩
      simp (disch := omega) only [fX5_is, lt, jn, q_lit, q_bnd, q_cl, q_le, q_lt, q_eq, pk_mul, nI_add, q_sub, q_div, q_pos, q_neg, q_T, q_F, q_max0, q_flg1, q_flg0, q_min, q_min2, q_bit, q_some, s13, s14, b0, b1, b2]
  · refine Or.inr ⟨?_, fun g => e1 g.1⟩
    simp (disch := omega) only [fX5_is, lt, jn, q_lit, q_bnd, q_cl, q_le, q_lt, q_eq, pk_mul, nI_add, q_sub, q_div, q_pos, q_neg, q_T, q_F, q_max0, q_flg1, q_flg0, q_min, q_min2, q_bit, q_some, s13, s14]
theorem m_ends1 {c : Nat → Nat} {n p q a : Nat} {T S : M2} (h : TB c n T S) (s14 : S 14 0 = nI q) (hpn : p ≤ n) (hL : q + 4 ≤ p) (hc : a < 128) : (fX5_ends (nI a) (nI 0) (nI 0) (nI 0) S = some (nI 1) ∧ c (q + 3) = a) ∨ (fX5_ends (nI a) (nI 0) (nI 0) (nI 0) S = some (nI 0) ∧ ¬ c (q + 3) = a) := by
  have h1 := h.1
  have b3 := m_byte h (p := q + 3) (by omega)
  have c3 := (h.2.2.2 (q + 3) (by omega)).1
  rw [if_pos (by omega)] at b3
  by_cases e : c (q + 3) = a
  · refine Or.inl ⟨?_, e⟩
    have n0 : nI 0 = (0 : Int32) := rfl
    unfold fX5_ends
    rw [s14, show nI q + (3 : Int32) = nI (q + 3) from nI_add q 3, b3, q_some, if_pos (congrArg nI e)]
    unfold jn
    dsimp only
    rw [if_pos n0, if_pos n0, if_pos n0]
    rfl
  · refine Or.inr ⟨?_, e⟩
    unfold fX5_ends
    rw [s14, show nI q + (3 : Int32) = nI (q + 3) from nI_add q 3, b3, q_some, if_neg (by rw [q_eq (by omega)]; exact e)]
    rfl
theorem m_ends2 {c : Nat → Nat} {n p q a b : Nat} {T S : M2} (h : TB c n T S) (s14 : S 14 0 = nI q) (hpn : p ≤ n) (hL : q + 5 ≤ p) (hc : a < 128 ∧ b < 128 ∧ 0 < b) : (fX5_ends (nI a) (nI b) (nI 0) (nI 0) S = some (nI 1) ∧ c (q + 3) = a ∧ c (q + 4) = b) ∨ (fX5_ends (nI a) (nI b) (nI 0) (nI 0) S = some (nI 0) ∧ ¬ (c (q + 3) = a ∧ c (q + 4) = b)) := by
  have h1 := h.1
  have b3 := m_byte h (p := q + 3) (by omega)
  have c3 := (h.2.2.2 (q + 3) (by omega)).1
  have b4 := m_byte h (p := q + 4) (by omega)
  have c4 := (h.2.2.2 (q + 4) (by omega)).1
  rw [if_pos (by omega)] at b3 b4
  by_cases e : c (q + 3) = a
  · by_cases e2 : c (q + 4) = b
    · refine Or.inl ⟨?_, e, e2⟩
      simp (disch := omega) only [fX5_ends, lt, jn, q_lit, q_bnd, q_cl, q_le, q_lt, q_eq, pk_mul, nI_add, q_sub, q_div, q_pos, q_neg, q_T, q_F, q_max0, q_flg1, q_flg0, q_min, q_min2, q_bit, q_some, s14, b3, b4]
    · refine Or.inr ⟨?_, fun g => e2 g.2⟩
      simp (disch := omega) only [fX5_ends, lt, jn, q_lit, q_bnd, q_cl, q_le, q_lt, q_eq, pk_mul, nI_add, q_sub, q_div, q_pos, q_neg, q_T, q_F, q_max0, q_flg1, q_flg0, q_min, q_min2, q_bit, q_some, s14, b3, b4]
  · refine Or.inr ⟨?_, fun g => e g.1⟩
    simp (disch := omega) only [fX5_ends, lt, jn, q_lit, q_bnd, q_cl, q_le, q_lt, q_eq, pk_mul, nI_add, q_sub, q_div, q_pos, q_neg, q_T, q_F, q_max0, q_flg1, q_flg0, q_min, q_min2, q_bit, q_some, s14, b3]
theorem m_ends4 {c : Nat → Nat} {n p q a b e f : Nat} {T S : M2} (h : TB c n T S) (s14 : S 14 0 = nI q) (hpn : p ≤ n) (hL : q + 7 ≤ p) (hc : a < 128 ∧ b < 128 ∧ 0 < b ∧ e < 128 ∧ 0 < e ∧ f < 128 ∧ 0 < f) : (fX5_ends (nI a) (nI b) (nI e) (nI f) S = some (nI 1) ∧ c (q + 3) = a ∧ c (q + 4) = b ∧ c (q + 5) = e ∧ c (q + 6) = f) ∨ (fX5_ends (nI a) (nI b) (nI e) (nI f) S = some (nI 0) ∧ ¬ (c (q + 3) = a ∧ c (q + 4) = b ∧ c (q + 5) = e ∧ c (q + 6) = f)) := by
  have h1 := h.1
  have b3 := m_byte h (p := q + 3) (by omega)
  have c3 := (h.2.2.2 (q + 3) (by omega)).1
  have b4 := m_byte h (p := q + 4) (by omega)
  have c4 := (h.2.2.2 (q + 4) (by omega)).1
  have b5 := m_byte h (p := q + 5) (by omega)
  have c5 := (h.2.2.2 (q + 5) (by omega)).1
  have b6 := m_byte h (p := q + 6) (by omega)
  have c6 := (h.2.2.2 (q + 6) (by omega)).1
  rw [if_pos (by omega)] at b3 b4 b5 b6
  by_cases e1 : c (q + 3) = a
  · by_cases e2 : c (q + 4) = b
    · by_cases e3 : c (q + 5) = e
      · by_cases e4 : c (q + 6) = f
        · refine Or.inl ⟨?_, e1, e2, e3, e4⟩
          simp (disch := omega) only [fX5_ends, lt, jn, q_lit, q_bnd, q_cl, q_le, q_lt, q_eq, pk_mul, nI_add, q_sub, q_div, q_pos, q_neg, q_T, q_F, q_max0, q_flg1, q_flg0, q_min, q_min2, q_bit, q_some, s14, b3, b4, b5, b6]
        · refine Or.inr ⟨?_, fun g => e4 g.2.2.2⟩
          simp (disch := omega) only [fX5_ends, lt, jn, q_lit, q_bnd, q_cl, q_le, q_lt, q_eq, pk_mul, nI_add, q_sub, q_div, q_pos, q_neg, q_T, q_F, q_max0, q_flg1, q_flg0, q_min, q_min2, q_bit, q_some, s14, b3, b4, b5, b6]
      · refine Or.inr ⟨?_, fun g => e3 g.2.2.1⟩
        simp (disch := omega) only [fX5_ends, lt, jn, q_lit, q_bnd, q_cl, q_le, q_lt, q_eq, pk_mul, nI_add, q_sub, q_div, q_pos, q_neg, q_T, q_F, q_max0, q_flg1, q_flg0, q_min, q_min2, q_bit, q_some, s14, b3, b4, b5]
    · refine Or.inr ⟨?_, fun g => e2 g.2.1⟩
      simp (disch := omega) only [fX5_ends, lt, jn, q_lit, q_bnd, q_cl, q_le, q_lt, q_eq, pk_mul, nI_add, q_sub, q_div, q_pos, q_neg, q_T, q_F, q_max0, q_flg1, q_flg0, q_min, q_min2, q_bit, q_some, s14, b3, b4]
  · refine Or.inr ⟨?_, fun g => e1 g.1⟩
    simp (disch := omega) only [fX5_ends, lt, jn, q_lit, q_bnd, q_cl, q_le, q_lt, q_eq, pk_mul, nI_add, q_sub, q_div, q_pos, q_neg, q_T, q_F, q_max0, q_flg1, q_flg0, q_min, q_min2, q_bit, q_some, s14, b3]
theorem mt0 (c : Nat → Nat) (q p : Nat) : mt c q p 0 = true ↔ p - q = 4 ∧ c q = 98 ∧ c (q + 1) = 111 ∧ c (q + 2) = 108 ∧ c (q + 3) = 116 := by
  simp [mt, ck, wd]
theorem mt1 (c : Nat → Nat) (q p : Nat) : mt c q p 1 = true ↔ p - q = 5 ∧ c q = 112 ∧ c (q + 1) = 108 ∧ c (q + 2) = 97 ∧ c (q + 3) = 105 ∧ c (q + 4) = 110 := by
  simp [mt, ck, wd]
theorem mt2 (c : Nat → Nat) (q p : Nat) : mt c q p 2 = true ↔ p - q = 5 ∧ c q = 112 ∧ c (q + 1) = 105 ∧ c (q + 2) = 99 ∧ c (q + 3) = 107 ∧ c (q + 4) = 121 := by
  simp [mt, ck, wd]
theorem mt3 (c : Nat → Nat) (q p : Nat) : mt c q p 3 = true ↔ p - q = 7 ∧ c q = 103 ∧ c (q + 1) = 108 ∧ c (q + 2) = 117 ∧ c (q + 3) = 116 ∧ c (q + 4) = 116 ∧ c (q + 5) = 111 ∧ c (q + 6) = 110 := by
  simp [mt, ck, wd]
theorem mt4 (c : Nat → Nat) (q p : Nat) : mt c q p 4 = true ↔ p - q = 3 ∧ c q = 102 ∧ c (q + 1) = 97 ∧ c (q + 2) = 116 := by
  simp [mt, ck, wd]
theorem mt5 (c : Nat → Nat) (q p : Nat) : mt c q p 5 = true ↔ p - q = 7 ∧ c q = 99 ∧ c (q + 1) = 97 ∧ c (q + 2) = 109 ∧ c (q + 3) = 112 ∧ c (q + 4) = 104 ∧ c (q + 5) = 111 ∧ c (q + 6) = 114 := by
  simp [mt, ck, wd]
theorem mt6 (c : Nat → Nat) (q p : Nat) : mt c q p 6 = true ↔ p - q = 4 ∧ c q = 109 ∧ c (q + 1) = 111 ∧ c (q + 2) = 111 ∧ c (q + 3) = 110 := by
  simp [mt, ck, wd]
theorem mt7 (c : Nat → Nat) (q p : Nat) : mt c q p 7 = true ↔ p - q = 4 ∧ c q = 114 ∧ c (q + 1) = 97 ∧ c (q + 2) = 116 ∧ c (q + 3) = 101 := by
  simp [mt, ck, wd]
def WL (I E : Option Int32) (W : Prop) : Prop := (I = some (nI 0) ∧ ¬ W) ∨ (I = some (nI 1) ∧ E = some (nI 0) ∧ ¬ W) ∨ (I = some (nI 1) ∧ E = some (nI 1) ∧ W)
theorem wl1 {c : Nat → Nat} {n p q a b e a3 : Nat} {T S : M2} {W : Prop} (h : TB c n T S) (s13 : S 13 0 = nI p) (s14 : S 14 0 = nI q) (hqp : q ≤ p) (hpn : p ≤ n) (hc : a < 128 ∧ b < 128 ∧ e < 128 ∧ a3 < 128) (hW : W ↔ p - q = 4 ∧ c q = a ∧ c (q + 1) = b ∧ c (q + 2) = e ∧ c (q + 3) = a3) : WL (fX5_is (nI 4) (nI a) (nI b) (nI e) S) (fX5_ends (nI a3) (nI 0) (nI 0) (nI 0) S) W := by
  rcases m_is (L := 4) (a := a) (b := b) (e := e) h s13 s14 hqp hpn (by omega) (by omega) with ⟨i1, i2, i3, i4, i5⟩ | ⟨i1, i2⟩
  · rcases m_ends1 (a := a3) h s14 hpn (by omega) hc.2.2.2 with ⟨j1, j2⟩ | ⟨j1, j2⟩
    · exact Or.inr (Or.inr ⟨i1, j1, hW.mpr ⟨i2, i3, i4, i5, j2⟩⟩)
    · exact Or.inr (Or.inl ⟨i1, j1, fun w => j2 (hW.mp w).2.2.2.2⟩)
  · exact Or.inl ⟨i1, fun w => i2 ⟨(hW.mp w).1, (hW.mp w).2.1, (hW.mp w).2.2.1, (hW.mp w).2.2.2.1⟩⟩
theorem wl2 {c : Nat → Nat} {n p q a b e a3 a4 : Nat} {T S : M2} {W : Prop} (h : TB c n T S) (s13 : S 13 0 = nI p) (s14 : S 14 0 = nI q) (hqp : q ≤ p) (hpn : p ≤ n) (hc : a < 128 ∧ b < 128 ∧ e < 128 ∧ a3 < 128 ∧ a4 < 128 ∧ 0 < a4) (hW : W ↔ p - q = 5 ∧ c q = a ∧ c (q + 1) = b ∧ c (q + 2) = e ∧ c (q + 3) = a3 ∧ c (q + 4) = a4) : WL (fX5_is (nI 5) (nI a) (nI b) (nI e) S) (fX5_ends (nI a3) (nI a4) (nI 0) (nI 0) S) W := by
  rcases m_is (L := 5) (a := a) (b := b) (e := e) h s13 s14 hqp hpn (by omega) (by omega) with ⟨i1, i2, i3, i4, i5⟩ | ⟨i1, i2⟩
  · rcases m_ends2 (a := a3) (b := a4) h s14 hpn (by omega) hc.2.2.2 with ⟨j1, j2⟩ | ⟨j1, j2⟩
    · exact Or.inr (Or.inr ⟨i1, j1, hW.mpr ⟨i2, i3, i4, i5, j2⟩⟩)
    · exact Or.inr (Or.inl ⟨i1, j1, fun w => j2 (hW.mp w).2.2.2.2⟩)
  · exact Or.inl ⟨i1, fun w => i2 ⟨(hW.mp w).1, (hW.mp w).2.1, (hW.mp w).2.2.1, (hW.mp w).2.2.2.1⟩⟩
theorem wl4 {c : Nat → Nat} {n p q a b e a3 a4 a5 a6 : Nat} {T S : M2} {W : Prop} (h : TB c n T S) (s13 : S 13 0 = nI p) (s14 : S 14 0 = nI q) (hqp : q ≤ p) (hpn : p ≤ n) (hc : a < 128 ∧ b < 128 ∧ e < 128 ∧ a3 < 128 ∧ a4 < 128 ∧ 0 < a4 ∧ a5 < 128 ∧ 0 < a5 ∧ a6 < 128 ∧ 0 < a6) (hW : W ↔ p - q = 7 ∧ c q = a ∧ c (q + 1) = b ∧ c (q + 2) = e ∧ c (q + 3) = a3 ∧ c (q + 4) = a4 ∧ c (q + 5) = a5 ∧ c (q + 6) = a6) : WL (fX5_is (nI 7) (nI a) (nI b) (nI e) S) (fX5_ends (nI a3) (nI a4) (nI a5) (nI a6) S) W := by
  rcases m_is (L := 7) (a := a) (b := b) (e := e) h s13 s14 hqp hpn (by omega) (by omega) with ⟨i1, i2, i3, i4, i5⟩ | ⟨i1, i2⟩
  · rcases m_ends4 (a := a3) (b := a4) (e := a5) (f := a6) h s14 hpn (by omega) hc.2.2.2 with ⟨j1, j2⟩ | ⟨j1, j2⟩
    · exact Or.inr (Or.inr ⟨i1, j1, hW.mpr ⟨i2, i3, i4, i5, j2⟩⟩)
    · exact Or.inr (Or.inl ⟨i1, j1, fun w => j2 (hW.mp w).2.2.2.2⟩)
  · exact Or.inl ⟨i1, fun w => i2 ⟨(hW.mp w).1, (hW.mp w).2.1, (hW.mp w).2.2.1, (hW.mp w).2.2.2.1⟩⟩
theorem stage {I E : Option Int32} {w : Bool} (h : WL I E (w = true)) (v : Int32) (k : Unit → Option Int32) : (I.bind fun r1 => jn (α := Option (Int32)) (β := Unit) (fun j2 => if r1 = 0 then j2 () else E.bind fun r3 => if r3 = 0 then j2 () else some v) k) = if w = true then some v else k () := by
  have n1 : ¬ nI 1 = (0 : Int32) := by decide
  have n0 : nI 0 = (0 : Int32) := rfl
  rcases h with ⟨h1, h2⟩ | ⟨h1, h3, h2⟩ | ⟨h1, h3, h2⟩
  · rw [h1, q_some, if_neg h2]
    unfold jn
    dsimp only
    rw [if_pos n0]
  · rw [h1, h3, q_some, if_neg h2]
    unfold jn
    dsimp only
    rw [if_neg n1, q_some, if_pos n0]
  · rw [h1, h3, q_some, if_pos h2]
    unfold jn
    dsimp only
    rw [if_neg n1, q_some, if_neg n1]
theorem stageL {I E : Option Int32} {w : Bool} (h : WL I E (w = true)) (v u : Int32) : (I.bind fun r1 => if r1 = 0 then some u else E.bind fun r3 => if r3 = 0 then some u else some v) = if w = true then some v else some u := by
  have n1 : ¬ nI 1 = (0 : Int32) := by decide
  have n0 : nI 0 = (0 : Int32) := rfl
  rcases h with ⟨h1, h2⟩ | ⟨h1, h3, h2⟩ | ⟨h1, h3, h2⟩
  · rw [h1, q_some, if_neg h2, if_pos n0]
  · rw [h1, h3, q_some, if_neg h2, if_neg n1, q_some, if_pos n0]
  · rw [h1, h3, q_some, if_pos h2, if_neg n1, q_some, if_neg n1]
theorem stageF {I : Option Int32} {w : Bool} (h : I = some (nI w.toNat)) (v : Int32) (k : Option Int32) : (I.bind fun r1 => if r1 = 0 then k else some v) = if w = true then some v else k := by
  rw [h, q_some]
  cases w <;> rfl
theorem names {c : Nat → Nat} {n p q : Nat} {T S : M2} (h : TB c n T S) (t5 : T 5 0 = nI p) (t7 : T 7 0 = nI q) (s13 : S 13 0 = nI p) (s14 : S 14 0 = nI q) (hqp : q ≤ p) (hpn : p ≤ n) : (∃ k, k < 8 ∧ fX3_lineNamed T = some (nI k) ∧ fX5_lineNow S = some (nI k)) ∨ (fX3_lineNamed T = some (-nI 1) ∧ fX5_lineNow S = some (-nI 4)) := by
  have fat : fX5_is (nI 3) (nI 102) (nI 97) (nI 116) S = some (nI (mt c q p 4).toNat) := by
    rcases m_is (L := 3) (a := 102) (b := 97) (e := 116) h s13 s14 hqp hpn (by omega) (by omega) with ⟨i1, i2⟩ | ⟨i1, i2⟩
    · rw [i1, (mt4 c q p).mpr i2]
      rfl
    · have : mt c q p 4 = false := by
        cases e : mt c q p 4
        · rfl
        · exact absurd ((mt4 c q p).mp e) i2
      rw [i1, this]
      rfl
  have eT : fX3_lineNamed T = if mt c q p 0 = true then some (nI 4) else if mt c q p 1 = true then some (nI 0) else if mt c q p 2 = true then some (nI 1) else if mt c q p 3 = true then some (nI 2) else if mt c q p 4 = true then some (nI 3) else if mt c q p 5 = true then some (nI 5) else if mt c q p 6 = true then some (nI 6) else if mt c q p 7 = true then some (nI 7) else some (-nI 1) := by
    unfold fX3_lineNamed
    rw [stageF (t_name h t5 t7 hqp hpn (k := 0) (by omega)), stageF (t_name h t5 t7 hqp hpn (k := 1) (by omega)), stageF (t_name h t5 t7 hqp hpn (k := 2) (by omega)), stageF (t_name h t5 t7 hqp hpn (k := 3) (by omega)), stageF (t_name h t5 t7 hqp hpn (k := 4) (by omega)), stageF (t_name h t5 t7 hqp hpn (k := 5) (by omega)), stageF (t_name h t5 t7 hqp hpn (k := 6) (by omega)), stageF (t_name h t5 t7 hqp hpn (k := 7) (by omega))]
    rfl
  have eS : fX5_lineNow S = if mt c q p 1 = true then some (nI 0) else if mt c q p 2 = true then some (nI 1) else if mt c q p 3 = true then some (nI 2) else if mt c q p 4 = true then some (nI 3) else if mt c q p 0 = true then some (nI 4) else if mt c q p 5 = true then some (nI 5) else if mt c q p 6 = true then some (nI 6) else if mt c q p 7 = true then some (nI 7) else some (-nI 4) := by
    unfold fX5_lineNow
    refine (stage (wl2 h s13 s14 hqp hpn (by omega) (mt1 c q p)) _ _).trans ?_
    refine congrArg (fun z => if mt c q p 1 = true then some (nI 0) else z) ?_
    refine (stage (wl2 h s13 s14 hqp hpn (by omega) (mt2 c q p)) _ _).trans ?_
    refine congrArg (fun z => if mt c q p 2 = true then some (nI 1) else z) ?_
    refine (stage (wl4 h s13 s14 hqp hpn (by omega) (mt3 c q p)) _ _).trans ?_
    refine congrArg (fun z => if mt c q p 3 = true then some (nI 2) else z) ?_
    refine (stageF fat _ _).trans ?_
    refine congrArg (fun z => if mt c q p 4 = true then some (nI 3) else z) ?_
    refine (stage (wl1 h s13 s14 hqp hpn (by omega) (mt0 c q p)) _ _).trans ?_
    refine congrArg (fun z => if mt c q p 0 = true then some (nI 4) else z) ?_
    refine (stage (wl4 h s13 s14 hqp hpn (by omega) (mt5 c q p)) _ _).trans ?_
    refine congrArg (fun z => if mt c q p 5 = true then some (nI 5) else z) ?_
    refine (stage (wl1 h s13 s14 hqp hpn (by omega) (mt6 c q p)) _ _).trans ?_
    refine congrArg (fun z => if mt c q p 6 = true then some (nI 6) else z) ?_
    exact stageL (wl1 h s13 s14 hqp hpn (by omega) (mt7 c q p)) _ _
  rw [eT, eS]
  by_cases m0 : mt c q p 0 = true
  · have x0 := (mt0 c q p).mp m0
    have m1 : ¬ mt c q p 1 = true := fun g => by have := (mt1 c q p).mp g; omega
    have m2 : ¬ mt c q p 2 = true := fun g => by have := (mt2 c q p).mp g; omega
    have m3 : ¬ mt c q p 3 = true := fun g => by have := (mt3 c q p).mp g; omega
    have m4 : ¬ mt c q p 4 = true := fun g => by have := (mt4 c q p).mp g; omega
    rw [if_pos m0, if_neg m1, if_neg m2, if_neg m3, if_neg m4, if_pos m0]
    exact Or.inl ⟨4, by omega, rfl, rfl⟩
  · rw [if_neg m0]
    by_cases m1 : mt c q p 1 = true
    · rw [if_pos m1, if_pos m1]
      exact Or.inl ⟨0, by omega, rfl, rfl⟩
    · rw [if_neg m1, if_neg m1]
      by_cases m2 : mt c q p 2 = true
      · rw [if_pos m2, if_pos m2]
        exact Or.inl ⟨1, by omega, rfl, rfl⟩
      · rw [if_neg m2, if_neg m2]
        by_cases m3 : mt c q p 3 = true
        · rw [if_pos m3, if_pos m3]
          exact Or.inl ⟨2, by omega, rfl, rfl⟩
        · rw [if_neg m3, if_neg m3]
          by_cases m4 : mt c q p 4 = true
          · rw [if_pos m4, if_pos m4]
            exact Or.inl ⟨3, by omega, rfl, rfl⟩
          · rw [if_neg m4, if_neg m4, if_neg m0]
            by_cases m5 : mt c q p 5 = true
            · rw [if_pos m5, if_pos m5]
              exact Or.inl ⟨5, by omega, rfl, rfl⟩
            · rw [if_neg m5, if_neg m5]
              by_cases m6 : mt c q p 6 = true
              · rw [if_pos m6, if_pos m6]
                exact Or.inl ⟨6, by omega, rfl, rfl⟩
              · rw [if_neg m6, if_neg m6]
                by_cases m7 : mt c q p 7 = true
                · rw [if_pos m7, if_pos m7]
                  exact Or.inl ⟨7, by omega, rfl, rfl⟩
                · rw [if_neg m7, if_neg m7]
                  exact Or.inr ⟨rfl, rfl⟩
end
section
/-! a line: what class and model do once its name is read -/
def mtail (S33 : M2) : Option M2 :=
  if (S33 17 0) = 0 then
    jn (α := Option (M2)) (β := Int32) (fun j36 =>
      if (S33 15 0) = (3 : Int32) then
        j36 (1 : Int32)
      else
        j36 (0 : Int32)) (fun p38 =>
      (fX5_needs p38 (2 : Int32) S33).bind fun q39 =>
      lt (q39) fun S40 =>
      (fX5_next S40).bind fun q41 =>
      lt (q41) fun S42 =>
      some S42)
  else
    (fX5_next S33).bind fun q34 =>
    lt (q34) fun S35 =>
    some S35
def mrest (k : Int32) (S29 : M2) : Option M2 :=
  (fX5_next S29).bind fun q30 =>
  lt (q30) fun S31 =>
  if (S31 17 0) ≤ 0 then
    (fX5_readLineOf k S31).bind fun q32 =>
    lt (q32) fun S33 => mtail S33
  else some S31
def crest (k : Int32) (T S : M2) : Option (Int32 × (M2 × M2)) :=
  (fX3_readNumbers k T S).bind fun q23 =>
  lt q23.2.1 fun T24 => lt q23.2.2 fun S25 =>
  if q23.1 = 0 then
    some ((0 : Int32), (T24, S25))
  else
    (fX3_nextToken T24).bind fun q26 =>
    lt (q26) fun T27 =>
    if (T27 6 0) = (3 : Int32) then
      (fX3_take k T27 S25).bind fun q28 =>
      lt q28.1 fun T29 => lt q28.2 fun S30 =>
      some ((1 : Int32), (T29, S30))
    else
      (fX3_refuse (2 : Int32) (T27 7 0) T27).bind fun q31 =>
      lt (q31.2) fun T32 =>
      zb q31.1 (some (q31.1, (T32, S25)))
def NX (n p : Nat) (T S : M2) : Prop := (∃ tk q p', p ≤ q ∧ TOK tk n q p' T S) ∨ ∃ pl, BD 1 pl T S ∧ T 6 0 = nI 5
theorem nx_bad {S : M2} {e : Nat} (h : S 17 0 = nI e) (he : 0 < e ∧ e < 10) : fX5_next S = some S := by
  simp (disch := omega) only [fX5_next, lt, jn, q_lit, q_bnd, q_cl, q_le, q_lt, q_eq, pk_mul, nI_add, q_sub, q_div, q_pos, q_neg, q_T, q_F, q_max0, q_flg1, q_flg0, q_min, q_min2, q_bit, q_some, h]
theorem nd_bad {S : M2} {e : Nat} (h : S 17 0 = nI e) (he : 0 < e ∧ e < 10) (x y : Int32) : fX5_needs x y S = some S := by
  by_cases e1 : x = nI 0
  · simp (disch := omega) only [fX5_needs, lt, jn, q_lit, q_bnd, q_cl, q_le, q_lt, q_eq, pk_mul, nI_add, q_sub, q_div, q_pos, q_neg, q_T, q_F, q_max0, q_flg1, q_flg0, q_min, q_min2, q_bit, q_some, h, e1]
  · simp (disch := omega) only [fX5_needs, lt, jn, q_lit, q_bnd, q_cl, q_le, q_lt, q_eq, pk_mul, nI_add, q_sub, q_div, q_pos, q_neg, q_T, q_F, q_max0, q_flg1, q_flg0, q_min, q_min2, q_bit, q_some, e1]
theorem lk_bad {S : M2} {e : Nat} (h : S 17 0 = nI e) (he : 0 < e ∧ e < 10) (x y : Int32) : fX5_looked x y S = some (nI 0, S) := by
  simp (disch := omega) only [fX5_looked, lt, jn, q_lit, q_bnd, q_cl, q_le, q_lt, q_eq, pk_mul, nI_add, q_sub, q_div, q_pos, q_neg, q_T, q_F, q_max0, q_flg1, q_flg0, q_min, q_min2, q_bit, q_some, h]
theorem mt_bad {S : M2} {e : Nat} (h : S 17 0 = nI e) (he : 0 < e ∧ e < 10) : mtail S = some S := by
  simp (disch := omega) only [mtail, lt, jn, q_lit, q_bnd, q_cl, q_le, q_lt, q_eq, pk_mul, nI_add, q_sub, q_div, q_pos, q_neg, q_T, q_F, q_max0, q_flg1, q_flg0, q_min, q_min2, q_bit, q_some, h, nx_bad h he]
theorem rf_bad {T : M2} {e : Nat} (h : T 2 0 = nI e) (he : 0 < e ∧ e < 10) (x y : Int32) : fX3_refuse x y T = some (nI 0, T) := by
  simp (disch := omega) only [fX3_refuse, lt, jn, q_lit, q_bnd, q_cl, q_le, q_lt, q_eq, pk_mul, nI_add, q_sub, q_div, q_pos, q_neg, q_T, q_F, q_max0, q_flg1, q_flg0, q_min, q_min2, q_bit, q_some, h]
theorem rf_new {T : M2} (h : T 2 0 = nI 0) (x y : Int32) : fX3_refuse x y T = some (nI 0, va_up (va_up T 2 (fun _ => x)) 3 (fun _ => y)) := by
  simp (disch := omega) only [fX3_refuse, lt, jn, q_lit, q_bnd, q_cl, q_le, q_lt, q_eq, pk_mul, nI_add, q_sub, q_div, q_pos, q_neg, q_T, q_F, q_max0, q_flg1, q_flg0, q_min, q_min2, q_bit, q_some, h]
theorem nd_new {S : M2} (h : S 17 0 = nI 0) (y : Int32) : fX5_needs (nI 0) y S = some (va_up (va_up S 17 (fun _ => y)) 18 (fun _ => S 14 0)) := by
  simp (disch := omega) only [fX5_needs, lt, jn, q_lit, q_bnd, q_cl, q_le, q_lt, q_eq, pk_mul, nI_add, q_sub, q_div, q_pos, q_neg, q_T, q_F, q_max0, q_flg1, q_flg0, q_min, q_min2, q_bit, q_some, h, q_up]
theorem nd_ok {S : M2} (y : Int32) : fX5_needs (nI 1) y S = some S := by
  simp (disch := omega) only [fX5_needs, lt, jn, q_lit, q_bnd, q_cl, q_le, q_lt, q_eq, pk_mul, nI_add, q_sub, q_div, q_pos, q_neg, q_T, q_F, q_max0, q_flg1, q_flg0, q_min, q_min2, q_bit, q_some]
theorem sign {n p : Nat} {T W : M2} (hx : NX n p T W) : (T 6 0 = nI 3 ∧ mtail W = fX5_next W ∧ W 17 0 = nI 0 ∧ T 2 0 = nI 0 ∧ ∃ p', p < p' ∧ p' ≤ n ∧ T 5 0 = nI p' ∧ W 13 0 = nI p') ∨ (¬ T 6 0 = nI 3 ∧ ∃ T' W' e pl, fX3_refuse (nI 2) (T 7 0) T = some (nI 0, T') ∧ mtail W = some W' ∧ BD e pl T' W' ∧ (∀ k, k ≠ 2 → k ≠ 3 → T' k = T k) ∧ ∀ k, k ≠ 17 → k ≠ 18 → W' k = W k) := by
  rcases hx with ⟨tk, q, p', hp, t2, w17, t5, w13, t7, w14, g1, g2, t6, w15, g3, g4, g5, g6⟩ | ⟨pl, ⟨t2, w17, g1, g2, t3, w18⟩, t6⟩
  · by_cases e : tk = 3
    · subst e
      refine Or.inl ⟨t6, ?_, w17, t2, p', by have := g5 rfl; omega, g2, t5, w13⟩
      rw [if_neg (by decide)] at w15
      simp (disch := omega) only [mtail, lt, jn, q_lit, q_bnd, q_cl, q_le, q_lt, q_eq, pk_mul, nI_add, q_sub, q_div, q_pos, q_neg, q_T, q_F, q_max0, q_flg1, q_flg0, q_min, q_min2, q_bit, q_some, w17, w15, nd_ok]
      cases fX5_next W <;> rfl
    · refine Or.inr ⟨?_, _, va_up (va_up W 17 (fun _ => nI 2)) 18 (fun _ => W 14 0), 2, q, rf_new t2 _ _, ?_, ⟨rfl, rfl, by omega, by omega, t7, w14⟩, fun k h2 h3 => by rw [q_up, if_neg h3, q_up, if_neg h2], fun k h2 h3 => by rw [q_up, if_neg h3, q_up, if_neg h2]⟩
      · rw [t6, q_eq (by omega)]
        exact e
      · have w15' : ¬ W 15 0 = nI 3 := by
          rw [w15]
          by_cases e4 : tk = 4
          · rw [if_pos e4]
            decide
          · rw [if_neg e4, q_eq (by omega)]
            exact e
        have hb := nx_bad (S := va_up (va_up W 17 (fun _ => nI 2)) 18 (fun _ => W 14 0)) (e := 2) rfl (by omega)
        simp (disch := omega) only [mtail, lt, jn, q_lit, q_bnd, q_cl, q_le, q_lt, q_eq, pk_mul, nI_add, q_sub, q_div, q_pos, q_neg, q_T, q_F, q_max0, q_flg1, q_flg0, q_min, q_min2, q_bit, q_some, w17, w15', nd_new w17, hb]
  · refine Or.inr ⟨?_, _, _, 1, pl, rf_bad t2 (by omega) _ _, mt_bad w17 (by omega), ⟨t2, w17, g1, g2, t3, w18⟩, fun _ _ _ => rfl, fun _ _ _ => rfl⟩
    rw [t6]
    decide
theorem check {n p lo hi : Nat} {T W : M2} (hx : NX n p T W) (hb : lo ≤ 1 ∧ hi ≤ 9) : (∃ v q p', T 6 0 = nI 2 ∧ T 8 0 = nI v ∧ lo ≤ v ∧ v ≤ hi ∧ fX5_looked (nI lo) (nI hi) W = some (nI v, W) ∧ W 17 0 = nI 0 ∧ T 2 0 = nI 0 ∧ p ≤ q ∧ q ≤ p' ∧ p' ≤ n ∧ T 5 0 = nI p' ∧ W 13 0 = nI p' ∧ T 7 0 = nI q ∧ W 14 0 = nI q) ∨ (∃ T' W' e pl, ((¬ T 6 0 = nI 2 ∧ fX3_refuse (nI 2) (T 7 0) T = some (nI 0, T')) ∨ (T 6 0 = nI 2 ∧ (∃ v, v < 100 ∧ T 8 0 = nI v ∧ ¬ (lo ≤ v ∧ v ≤ hi)) ∧ fX3_refuse (nI 3) (T 7 0) T = some (nI 0, T'))) ∧ fX5_looked (nI lo) (nI hi) W = some (nI 0, W') ∧ BD e pl T' W' ∧ (∀ k, k ≠ 2 → k ≠ 3 → T' k = T k) ∧ (∀ k, k ≠ 17 → k ≠ 18 → W' k = W k) ∧ (W 17 0 = nI 0 ∨ W' = W)) := by
  rcases hx with ⟨tk, q, p', hp, t2, w17, t5, w13, t7, w14, g1, g2, t6, w15, g3, g4, g5, g6⟩ | ⟨pl, ⟨t2, w17, g1, g2, t3, w18⟩, t6⟩
  · by_cases e : tk = 2
    · subst e
      obtain ⟨v, v1, v2, v3⟩ := g6 rfl
      rw [if_neg (by decide)] at w15
      have hw : fX5_in (nI v).toInt64 (nI lo).toInt64 (nI hi).toInt64 = some (nI (decide (lo ≤ v ∧ v ≤ hi)).toNat) := by
        rw [q_in5, within_b (by omega)]
      by_cases ev : lo ≤ v ∧ v ≤ hi
      · rw [decide_eq_true ev] at hw
        refine Or.inl ⟨v, q, p', t6, v2, ev.1, ev.2, ?_, w17, t2, hp, g1, g2, t5, w13, t7, w14⟩
        simp (disch := omega) only [fX5_looked, lt, jn, q_lit, q_bnd, q_cl, q_le, q_lt, q_eq, pk_mul, nI_add, q_sub, q_div, q_pos, q_neg, q_T, q_F, q_max0, q_flg1, q_flg0, q_min, q_min2, q_bit, q_some, w17, w15, v3, hw, nd_ok, Bool.toNat_true]
      · rw [decide_eq_false ev] at hw
        refine Or.inr ⟨_, va_up (va_up W 17 (fun _ => nI 3)) 18 (fun _ => W 14 0), 3, q, Or.inr ⟨t6, ⟨v, v1, v2, ev⟩, rf_new t2 _ _⟩, ?_, ⟨rfl, rfl, by omega, by omega, t7, w14⟩, fun k h2 h3 => by rw [q_up, if_neg h3, q_up, if_neg h2], fun k h2 h3 => by rw [q_up, if_neg h3, q_up, if_neg h2], Or.inl w17⟩
        simp (disch := omega) only [fX5_looked, lt, jn, q_lit, q_bnd, q_cl, q_le, q_lt, q_eq, pk_mul, nI_add, q_sub, q_div, q_pos, q_neg, q_T, q_F, q_max0, q_flg1, q_flg0, q_min, q_min2, q_bit, q_some, w17, w15, v3, hw, nd_ok, nd_new w17, Bool.toNat_false, q_up]
    · refine Or.inr ⟨_, va_up (va_up W 17 (fun _ => nI 2)) 18 (fun _ => W 14 0), 2, q, Or.inl ⟨?_, rf_new t2 _ _⟩, ?_, ⟨rfl, rfl, by omega, by omega, t7, w14⟩, fun k h2 h3 => by rw [q_up, if_neg h3, q_up, if_neg h2], fun k h2 h3 => by rw [q_up, if_neg h3, q_up, if_neg h2], Or.inl w17⟩
      · rw [t6, q_eq (by omega)]
        exact e
      · have w15' : ¬ W 15 0 = nI 2 := by
          rw [w15]
          by_cases e4 : tk = 4
          · rw [if_pos e4]
            decide
          · rw [if_neg e4, q_eq (by omega)]
            exact e
        simp (disch := omega) only [fX5_looked, lt, jn, q_lit, q_bnd, q_cl, q_le, q_lt, q_eq, pk_mul, nI_add, q_sub, q_div, q_pos, q_neg, q_T, q_F, q_max0, q_flg1, q_flg0, q_min, q_min2, q_bit, q_some, w17, w15', nd_new w17, q_up]
  · refine Or.inr ⟨_, _, 1, pl, Or.inl ⟨?_, rf_bad t2 (by omega) _ _⟩, lk_bad w17 (by omega) _ _, ⟨t2, w17, g1, g2, t3, w18⟩, fun _ _ _ => rfl, fun _ _ _ => rfl, Or.inr rfl⟩
    rw [t6]
    decide
def moN (k i : Nat) : Nat := if k = 5 then 4 else if k = 6 then 3 else if k = 7 then 9 else if i = 0 then 5 else if i = 1 then 9 else 2
theorem t_most {k i : Nat} (hk : k < 8) (hi : i < 3) : fX3_mostOfNumber (nI k) (nI i) = some (nI (moN k i)) := by
  have : ∀ k, k < 8 → ∀ i, i < 3 → fX3_mostOfNumber (nI k) (nI i) = some (nI (moN k i)) := by decide +kernel
  exact this k hk i hi
theorem moN_le {k i : Nat} : moN k i ≤ 9 := by
  unfold moN
  split
  · omega
  · split
    · omega
    · split
      · omega
      · split
        · omega
        · split <;> omega
/-- a number of a line that isn't camphor's -/
theorem t_num {T0 Sd0 : M2} {n p k i m f : Nat} {T T8 Sd W : M2} (hk : k < 8) (hk5 : k ≠ 5) (hi : i < m) (hm : m ≤ 3) (kk : (M2 × M2) → Option (Int32 × (M2 × M2))) (hn : fX3_nextToken T = some T8) (hx : NX n p T8 W) : (∃ v q p', (if k = 7 then 1 else 0) ≤ v ∧ v ≤ moN k i ∧ fX5_looked (nI (if k = 7 then 1 else 0)) (nI (moN k i)) W = some (nI v, W) ∧ W 17 0 = nI 0 ∧ T8 2 0 = nI 0 ∧ p ≤ q ∧ q ≤ p' ∧ p' ≤ n ∧ T8 5 0 = nI p' ∧ W 13 0 = nI p' ∧ fX3_readNumbers_L14 T0 Sd0 (nI k) (nI m) kk (f + 1) (nI i) T Sd = fX3_readNumbers_L14 T0 Sd0 (nI k) (nI m) kk f (nI (i + 1)) (va_up T8 4 (upd (T8 4) i (nI v))) Sd) ∨ (∃ T' W' e pl, fX3_readNumbers_L14 T0 Sd0 (nI k) (nI m) kk (f + 1) (nI i) T Sd = some (nI 0, (T', Sd)) ∧ fX5_looked (nI (if k = 7 then 1 else 0)) (nI (moN k i)) W = some (nI 0, W') ∧ BD e pl T' W' ∧ (∀ k, k ≠ 2 → k ≠ 3 → T' k = T8 k) ∧ (∀ k, k ≠ 17 → k ≠ 18 → W' k = W k) ∧ (W 17 0 = nI 0 ∨ W' = W)) := by
  have hlo : (if k = 7 then 1 else 0) ≤ 1 := by split <;> omega
  have hmo : moN k i ≤ 9 := moN_le
  have z0 : ∀ (x : Int32 × (M2 × M2)), zb (nI 0) (some x) = some x := fun x => rfl
  rcases check (lo := if k = 7 then 1 else 0) (hi := moN k i) hx ⟨hlo, hmo⟩ with ⟨v, q, p', a1, a2, a3, a4, a5, a6, a7, a8, a9, a10, a11, a12, a13, a14⟩ | ⟨T', W', e, pl, a1, a2, a3, a4, a5, a6⟩
  · refine Or.inl ⟨v, q, p', a3, a4, a5, a6, a7, a8, a9, a10, a11, a12, ?_⟩
    have hw : fX4_within (nI v) (nI (if k = 7 then 1 else 0)) (nI (moN k i)) = some (nI 1) := q_win ⟨a3, a4, by omega⟩
    by_cases e7 : k = 7
    · subst e7
      rw [if_pos rfl] at hw
      simp (disch := omega) only [fX3_readNumbers_L14, lt, jn, q_lit, q_bnd, q_cl, q_le, q_lt, q_eq, pk_mul, nI_add, q_sub, q_div, q_pos, q_neg, q_T, q_F, q_max0, q_flg1, q_flg0, q_min, q_min2, q_bit, q_some, hn, a1, a2, t_most, hw]
    · rw [if_neg e7] at hw
      simp (disch := omega) only [fX3_readNumbers_L14, lt, jn, q_lit, q_bnd, q_cl, q_le, q_lt, q_eq, pk_mul, nI_add, q_sub, q_div, q_pos, q_neg, q_T, q_F, q_max0, q_flg1, q_flg0, q_min, q_min2, q_bit, q_some, hn, a1, a2, t_most, hw]
  · refine Or.inr ⟨T', W', e, pl, ?_, a2, a3, a4, a5, a6⟩
    rcases a1 with ⟨b1, b2⟩ | ⟨b1, ⟨v, v1, v2, v3⟩, b2⟩
    · simp (disch := omega) only [fX3_readNumbers_L14, lt, jn, q_lit, q_bnd, q_cl, q_le, q_lt, q_eq, pk_mul, nI_add, q_sub, q_div, q_pos, q_neg, q_T, q_F, q_max0, q_flg1, q_flg0, q_min, q_min2, q_bit, q_some, hn, b1, b2, z0]
    · have hw : fX4_within (nI v) (nI (if k = 7 then 1 else 0)) (nI (moN k i)) = some (nI 0) := by
        rw [within_b (by omega), decide_eq_false v3]
        rfl
      by_cases e7 : k = 7
      · subst e7
        rw [if_pos rfl] at hw
        simp (disch := omega) only [fX3_readNumbers_L14, lt, jn, q_lit, q_bnd, q_cl, q_le, q_lt, q_eq, pk_mul, nI_add, q_sub, q_div, q_pos, q_neg, q_T, q_F, q_max0, q_flg1, q_flg0, q_min, q_min2, q_bit, q_some, hn, b1, v2, t_most, hw, b2, z0]
      · rw [if_neg e7] at hw
        simp (disch := omega) only [fX3_readNumbers_L14, lt, jn, q_lit, q_bnd, q_cl, q_le, q_lt, q_eq, pk_mul, nI_add, q_sub, q_div, q_pos, q_neg, q_T, q_F, q_max0, q_flg1, q_flg0, q_min, q_min2, q_bit, q_some, hn, b1, v2, t_most, hw, b2, z0]
theorem t_nums_end {T0 Sd0 T Sd : M2} {k m f : Nat} (hm : m ≤ 3) (kk : (M2 × M2) → Option (Int32 × (M2 × M2))) : fX3_readNumbers_L14 T0 Sd0 (nI k) (nI m) kk (f + 1) (nI m) T Sd = kk (T, Sd) := by
  simp (disch := omega) only [fX3_readNumbers_L14, lt, jn, q_lit, q_bnd, q_cl, q_le, q_lt, q_eq, pk_mul, nI_add, q_sub, q_div, q_pos, q_neg, q_T, q_F, q_max0, q_flg1, q_flg0, q_min, q_min2, q_bit, q_some]
/-- the count of bolts of the draft that lie in the bale of the one that is read -/
theorem m_cnt {S : M2} {nb : Nat} (hn : nb < 5) (h6 : S 6 0 = nI nb) (kk : Int32 → Option M2) : ∀ (d t f : Nat), t + d = nb → d < f → fX5_readBolt_L55 (nI (6 * nb)) S kk f (nI (spSum (fun c => (decide (S 5 (6 * c + 4) = S 5 (6 * nb + 4))).toNat) t)) (nI t) = kk (nI (spSum (fun c => (decide (S 5 (6 * c + 4) = S 5 (6 * nb + 4))).toNat) nb))
  | 0, t, f + 1, ht, hf => by
    have e : t = nb := by omega
    subst e
    simp (disch := omega) only [fX5_readBolt_L55, lt, jn, q_lit, q_bnd, q_cl, q_le, q_lt, q_eq, pk_mul, nI_add, q_sub, q_div, q_pos, q_neg, q_T, q_F, q_max0, q_flg1, q_flg0, q_min, q_min2, q_bit, q_some, h6]
  | d + 1, t, f + 1, ht, hf => by
    have ih := m_cnt hn h6 kk d (t + 1) f (by omega) (by omega)
    rw [spSum] at ih
    by_cases e : S 5 (6 * t + 4) = S 5 (6 * nb + 4)
    · rw [decide_eq_true e, Bool.toNat_true] at ih
      simp (disch := omega) only [fX5_readBolt_L55, lt, jn, q_lit, q_bnd, q_cl, q_le, q_lt, q_eq, pk_mul, nI_add, q_sub, q_div, q_pos, q_neg, q_T, q_F, q_max0, q_flg1, q_flg0, q_min, q_min2, q_bit, q_some, h6, e, ih]
    · rw [decide_eq_false e, Bool.toNat_false, Nat.add_zero] at ih
      simp (disch := omega) only [fX5_readBolt_L55, lt, jn, q_lit, q_bnd, q_cl, q_le, q_lt, q_eq, pk_mul, nI_add, q_sub, q_div, q_pos, q_neg, q_T, q_F, q_max0, q_flg1, q_flg0, q_min, q_min2, q_bit, q_some, h6, e, Nat.add_zero, ih]
theorem bolt_chain {S S1 S2 S4 S5 S7 S8 : M2} {nb : Nat} {a1 a2 a3 : Int32} (hn : nb < 5) (h6 : S 6 0 = nI nb) (l1 : fX5_looked (nI 0) (nI 5) S = some (a1, S1)) (n1 : fX5_next S1 = some S2) (l2 : fX5_looked (nI 0) (nI 9) (va_up S2 5 (upd (S2 5) (6 * nb) a1)) = some (a2, S4)) (n2 : fX5_next S4 = some S5) (l3 : fX5_looked (nI 0) (nI 2) (va_up S5 5 (upd (S5 5) (6 * nb + 1) a2)) = some (a3, S7)) (n3 : fX5_next S7 = some S8) (h6' : S8 6 0 = nI nb) : fX5_readBolt S = some (va_up (va_up (va_up S8 5 (upd (S8 5) (6 * nb + 4) a3)) 5 (upd (upd (S8 5) (6 * nb + 4) a3) (6 * nb + 5) (nI (spSum (fun c => (decide ((upd (S8 5) (6 * nb + 4) a3) (6 * c + 4) = (upd (S8 5) (6 * nb + 4) a3) (6 * nb + 4))).toNat) nb)))) 6 (fun _ => nI (nb + 1))) := by
  have hc := fun kk => m_cnt (S := va_up S8 5 (upd (S8 5) (6 * nb + 4) a3)) hn h6' kk nb 0 400 (by omega) (by omega)
  rw [spSum] at hc
  unfold fX5_readBolt fX5_readNumber
  simp (disch := omega) only [lt, q_lit, q_some, q_bnd, q_cl, pk_mul, nI_add, h6, l1, n1, l2, n2, l3, n3, hc, Nat.add_zero, q_up, h6', q_F, q_T, q_neg]
theorem moth_chain {S S1 S2 S4 S5 S7 S8 : M2} {nm : Nat} {k a1 a2 a3 : Int32} (hn : nm < 4) (h7 : S 7 0 = nI nm) (l1 : fX5_looked (nI 0) (nI 5) (va_up S 5 (upd (S 5) (30 + 4 * nm) k)) = some (a1, S1)) (n1 : fX5_next S1 = some S2) (l2 : fX5_looked (nI 0) (nI 9) (va_up S2 5 (upd (S2 5) (30 + 4 * nm + 1) a1)) = some (a2, S4)) (n2 : fX5_next S4 = some S5) (l3 : fX5_looked (nI 0) (nI 2) (va_up S5 5 (upd (S5 5) (30 + 4 * nm + 2) a2)) = some (a3, S7)) (n3 : fX5_next S7 = some S8) (h7' : S8 7 0 = nI nm) : fX5_readMoth k S = some (va_up (va_up S8 5 (upd (S8 5) (30 + 4 * nm + 3) a3)) 7 (fun _ => nI (nm + 1))) := by
  unfold fX5_readMoth fX5_readNumber
  simp (disch := omega) only [lt, q_lit, q_some, q_bnd, q_cl, pk_mul, nI_add, h7, l1, n1, l2, n2, l3, n3, Nat.add_zero, q_up, h7', q_F, q_T, q_neg]
end
section
/-! lines by kinds -/
def MF (S S' : M2) : Prop := ∀ j, (j < 5 ∨ j = 11 ∨ j = 12 ∨ 18 < j) → S' j = S j
theorem SF.mf {S S' : M2} (h : SF S S') : MF S S' := fun j hj => h j (by omega) (by omega) (by omega) (by omega) (by omega) (by omega)
theorem MF.trans {S S' S'' : M2} (h : MF S S') (g : MF S' S'') : MF S S'' := fun j hj => (g j hj).trans (h j hj)
theorem MF.of57 {S S' : M2} (h : ∀ j, j ≠ 5 → j ≠ 6 → j ≠ 7 → S' j = S j) : MF S S' := fun j hj => h j (by omega) (by omega) (by omega)
theorem MF.of5 {S S' : M2} (h : ∀ j, j ≠ 5 → S' j = S j) : MF S S' := fun j hj => h j (by omega)
theorem MF.of1718 {S S' : M2} (h : ∀ j, j ≠ 17 → j ≠ 18 → S' j = S j) : MF S S' := fun j hj => h j (by omega) (by omega)
theorem TB.mv {c : Nat → Nat} {n : Nat} {T S T' S' : M2} (h : TB c n T S) (t0 : T' 0 = T 0) (t1 : T' 1 = T 1) (s : MF S S') : TB c n T' S' := by
  have e11 := s 11 (by omega)
  have e12 := s 12 (by omega)
  refine ⟨h.1, ?_, ?_, fun i hi => ?_⟩
  · rw [t1]; exact h.2.1
  · rw [e12]; exact h.2.2.1
  · rw [t0, e11]; exact h.2.2.2 i hi
theorem NX.w {n p : Nat} {T S W : M2} (h : NX n p T S) (e : ∀ j, 13 ≤ j → j ≤ 18 → W j = S j) : NX n p T W := by
  unfold NX TOK BD at h ⊢
  rw [e 13 (by omega) (by omega), e 14 (by omega) (by omega), e 15 (by omega) (by omega), e 16 (by omega) (by omega), e 17 (by omega) (by omega), e 18 (by omega) (by omega)]
  exact h
theorem BD.w {e pl : Nat} {T S W : M2} (h : BD e pl T S) (g : ∀ j, 17 ≤ j → j ≤ 18 → W j = S j) : BD e pl T W := by
  unfold BD at h ⊢
  rw [g 17 (by omega) (by omega), g 18 (by omega) (by omega)]
  exact h
/-- a line that is refused behind its name -/
def BO (k : Nat) (T S29 Sd : M2) : Prop := ∃ T' S' e pl, crest (nI k) T Sd = some (nI 0, (T', Sd)) ∧ mrest (nI k) S29 = some S' ∧ T' 0 = T 0 ∧ T' 1 = T 1 ∧ MF S29 S' ∧ BD e pl T' S'
theorem rdN {k : Nat} (hk : k < 8) (T Sd : M2) : fX3_readNumbers (nI k) T Sd = fX3_readNumbers_L14 T Sd (nI k) (nI (if 4 < k then 1 else 3)) (fun p30 => some (nI 1, (p30.1, p30.2))) 400 (nI 0) T Sd := by
  by_cases e : 4 < k
  · rw [if_pos e]
    simp (disch := omega) only [fX3_readNumbers, lt, jn, q_lit, q_bnd, q_cl, q_le, q_lt, q_eq, pk_mul, nI_add, q_sub, q_div, q_pos, q_neg, q_T, q_F, q_max0, q_flg1, q_flg0, q_min, q_min2, q_bit, q_some]
  · rw [if_neg e]
    simp (disch := omega) only [fX3_readNumbers, lt, jn, q_lit, q_bnd, q_cl, q_le, q_lt, q_eq, pk_mul, nI_add, q_sub, q_div, q_pos, q_neg, q_T, q_F, q_max0, q_flg1, q_flg0, q_min, q_min2, q_bit, q_some]
theorem crest_bad {k : Nat} {T Sd T' : M2} (h : fX3_readNumbers (nI k) T Sd = some (nI 0, (T', Sd))) : crest (nI k) T Sd = some (nI 0, (T', Sd)) := by
  simp (disch := omega) only [crest, lt, jn, q_lit, q_bnd, q_cl, q_le, q_lt, q_eq, pk_mul, nI_add, q_sub, q_div, q_pos, q_neg, q_T, q_F, q_max0, q_flg1, q_flg0, q_min, q_min2, q_bit, q_some, h]
theorem crest_sign {k e pl : Nat} {T Sd T24 T27 T' : M2} {W' : M2} (h : fX3_readNumbers (nI k) T Sd = some (nI 1, (T24, Sd))) (h2 : fX3_nextToken T24 = some T27) (h3 : ¬ T27 6 0 = nI 3) (h4 : fX3_refuse (nI 2) (T27 7 0) T27 = some (nI 0, T')) (hb : BD e pl T' W') : crest (nI k) T Sd = some (nI 0, (T', Sd)) := by
  have z0 : ∀ (x : Int32 × (M2 × M2)), zb (nI 0) (some x) = some x := fun x => rfl
  simp (disch := omega) only [crest, lt, jn, q_lit, q_bnd, q_cl, q_le, q_lt, q_eq, pk_mul, nI_add, q_sub, q_div, q_pos, q_neg, q_T, q_F, q_max0, q_flg1, q_flg0, q_min, q_min2, q_bit, q_some, h, h2, h3, h4, z0]
theorem crest_ok {k : Nat} {T Sd T24 T27 : M2} (h : fX3_readNumbers (nI k) T Sd = some (nI 1, (T24, Sd))) (h2 : fX3_nextToken T24 = some T27) (h3 : T27 6 0 = nI 3) : crest (nI k) T Sd = (fX3_take (nI k) T27 Sd).bind fun q28 => some (nI 1, (q28.1, q28.2)) := by
  simp (disch := omega) only [crest, lt, jn, q_lit, q_bnd, q_cl, q_le, q_lt, q_eq, pk_mul, nI_add, q_sub, q_div, q_pos, q_neg, q_T, q_F, q_max0, q_flg1, q_flg0, q_min, q_min2, q_bit, q_some, h, h2, h3]
theorem mrest_go {k : Int32} {S29 S31 S33 : M2} (h : fX5_next S29 = some S31) (h17 : S31 17 0 = nI 0) (h2 : fX5_readLineOf k S31 = some S33) : mrest k S29 = mtail S33 := by
  simp (disch := omega) only [mrest, lt, jn, q_lit, q_bnd, q_cl, q_le, q_lt, q_eq, pk_mul, nI_add, q_sub, q_div, q_pos, q_neg, q_T, q_F, q_max0, q_flg1, q_flg0, q_min, q_min2, q_bit, q_some, h, h17, h2]
theorem mrest_no {k : Int32} {S29 S31 : M2} {e : Nat} (h : fX5_next S29 = some S31) (h17 : S31 17 0 = nI e) (he : 0 < e ∧ e < 10) : mrest k S29 = some S31 := by
  simp (disch := omega) only [mrest, lt, jn, q_lit, q_bnd, q_cl, q_le, q_lt, q_eq, pk_mul, nI_add, q_sub, q_div, q_pos, q_neg, q_T, q_F, q_max0, q_flg1, q_flg0, q_min, q_min2, q_bit, q_some, h, h17]
theorem three {c : Nat → Nat} {n p k : Nat} {T S29 Sd : M2} (u0 : M2 → M2) (u1 u2 u3 : Int32 → M2 → M2) (hk : k ≤ 4) (h : TB c n T S29) (hp : p ≤ n) (t2 : T 2 0 = nI 0) (s17 : S29 17 0 = nI 0) (t5 : T 5 0 = nI p) (s13 : S29 13 0 = nI p) (hu0 : ∀ S j, j ≠ 5 → u0 S j = S j) (hu1 : ∀ a S j, j ≠ 5 → u1 a S j = S j) (hu2 : ∀ a S j, j ≠ 5 → u2 a S j = S j) (hu3 : ∀ a S j, j ≠ 5 → j ≠ 6 → j ≠ 7 → u3 a S j = S j) (hg : ∀ S S1 S2 S4 S5 S7 S8 a1 a2 a3, (∀ j, j = 6 ∨ j = 7 → S j = S29 j) → fX5_looked (nI 0) (nI 5) (u0 S) = some (a1, S1) → fX5_next S1 = some S2 → fX5_looked (nI 0) (nI 9) (u1 a1 S2) = some (a2, S4) → fX5_next S4 = some S5 → fX5_looked (nI 0) (nI 2) (u2 a2 S5) = some (a3, S7) → fX5_next S7 = some S8 → (∀ j, j = 6 ∨ j = 7 → S8 j = S29 j) → fX5_readLineOf (nI k) S = some (u3 a3 S8)) :
  (∃ T27 S8 S5 S2 S31 v1 v2 v3 p', v1 ≤ 5 ∧ v2 ≤ 9 ∧ v3 ≤ 2 ∧ (crest (nI k) T Sd = (fX3_take (nI k) T27 Sd).bind fun q28 => some (nI 1, (q28.1, q28.2))) ∧ mrest (nI k) S29 = fX5_next (u3 (nI v3) S8) ∧ T27 4 0 = nI v1 ∧ T27 4 1 = nI v2 ∧ T27 4 2 = nI v3 ∧ T27 2 0 = nI 0 ∧ (T27 0 = T 0 ∧ T27 1 = T 1 ∧ T27 9 = T 9 ∧ T27 10 = T 10) ∧ S8 17 0 = nI 0 ∧ T27 5 0 = nI p' ∧ S8 13 0 = nI p' ∧ p < p' ∧ p' ≤ n ∧ (∀ j, j ≠ 5 → (j < 13 ∨ 18 < j) → S8 j = S29 j) ∧ S8 5 = u2 (nI v2) S5 5 ∧ S5 5 = u1 (nI v1) S2 5 ∧ S2 5 = u0 S31 5 ∧ S31 5 = S29 5) ∨ BO k T S29 Sd := by
  have e7 : (if k = 7 then 1 else 0) = 0 := if_neg (by omega)
  have m0 : moN k 0 = 5 := by
    unfold moN
    rw [if_neg (by omega), if_neg (by omega), if_neg (by omega), if_pos rfl]
  have m1 : moN k 1 = 9 := by
    unfold moN
    rw [if_neg (by omega), if_neg (by omega), if_neg (by omega), if_neg (by omega), if_pos rfl]
  have m2 : moN k 2 = 2 := by
    unfold moN
    rw [if_neg (by omega), if_neg (by omega), if_neg (by omega), if_neg (by omega), if_neg (by omega)]
  have rd := rdN (k := k) (by omega) T Sd
  rw [if_neg (by omega)] at rd
  obtain ⟨T8, S31, a1, a2, a3, a4, a5⟩ := nx h hp t2 s17 t5 s13
  have fr31 : ∀ j, (j < 13 ∨ 18 < j) → S31 j = S29 j := fun j hj => a4 j (by omega) (by omega) (by omega) (by omega) (by omega) (by omega)
  have b5 : NX n p T8 (u0 S31) := NX.w a5 fun j _ _ => hu0 S31 j (by omega)
  have x31 : ∀ j, j = 6 ∨ j = 7 → S31 j = S29 j := fun j hj => fr31 j (by omega)
  rcases t_num (T0 := T) (Sd0 := Sd) (Sd := Sd) (i := 0) (m := 3) (f := 399) (k := k) (by omega) (by omega) (by omega) (by omega) (fun p30 => some (nI 1, (p30.1, p30.2))) a1 b5 with ⟨v1, q1, p1, c1, c2, c3, c4, c5, c6, c7, c8, c9, c10, c11⟩ | ⟨T', W', e, pl, c1, c2, c3, c4, c5, c6⟩
  · rw [e7, m0] at c3
    rw [m0] at c2
    have w17 : S31 17 0 = nI 0 := by rw [← hu0 S31 17 (by omega)]; exact c4
    have g8 : ∀ j, j = 0 ∨ j = 1 ∨ j = 9 ∨ j = 10 → T8 j = T j := fun j hj => a3 j (by omega) (by omega) (by omega) (by omega) (by omega) (by omega)
    have f1 : MF S29 (u0 S31) := a4.mf.trans (MF.of5 (hu0 S31))
    have h1 : TB c n (va_up T8 4 (upd (T8 4) 0 (nI v1))) (u0 S31) := h.mv (by rw [q_up, if_neg (by omega)]; exact g8 0 (by omega)) (by rw [q_up, if_neg (by omega)]; exact g8 1 (by omega)) f1
    obtain ⟨T8b, S2, d1, d2, d3, d4, d5⟩ := nx h1 c8 (show va_up T8 4 (upd (T8 4) 0 (nI v1)) 2 0 = nI 0 from c5) c4 (show va_up T8 4 (upd (T8 4) 0 (nI v1)) 5 0 = nI p1 from c9) c10
    have fr2 : ∀ j, j ≠ 5 → (j < 13 ∨ 18 < j) → S2 j = S29 j := fun j h5 hj => by rw [d4 j (by omega) (by omega) (by omega) (by omega) (by omega) (by omega), hu0 S31 j h5, fr31 j hj]
    have x52 : S2 5 = u0 S31 5 := d4 5 (by omega) (by omega) (by omega) (by omega) (by omega) (by omega)
    have b6 : NX n p1 T8b (u1 (nI v1) S2) := NX.w d5 fun j _ _ => hu1 _ S2 j (by omega)
    have g8b : ∀ j, j = 0 ∨ j = 1 ∨ j = 9 ∨ j = 10 → T8b j = T j := fun j hj => by rw [d3 j (by omega) (by omega) (by omega) (by omega) (by omega) (by omega), q_up, if_neg (by omega), g8 j hj]
    rcases t_num (T0 := T) (Sd0 := Sd) (Sd := Sd) (i := 1) (m := 3) (f := 398) (k := k) (by omega) (by omega) (by omega) (by omega) (fun p30 => some (nI 1, (p30.1, p30.2))) d1 b6 with ⟨v2, q2, p2, i1, i2, i3, i4, i5, i6, i7, i8, i9, i10, i11⟩ | ⟨T', W', e, pl, i1, i2, i3, i4, i5, i6⟩
    · rw [e7, m1] at i3
      rw [m1] at i2
      have f2 : MF S29 (u1 (nI v1) S2) := f1.trans (d4.mf.trans (MF.of5 (hu1 _ S2)))
      have h2 : TB c n (va_up T8b 4 (upd (T8b 4) 1 (nI v2))) (u1 (nI v1) S2) := h.mv (by rw [q_up, if_neg (by omega)]; exact g8b 0 (by omega)) (by rw [q_up, if_neg (by omega)]; exact g8b 1 (by omega)) f2
      obtain ⟨T8c, S5, j1, j2, j3, j4, j5⟩ := nx h2 i8 (show va_up T8b 4 (upd (T8b 4) 1 (nI v2)) 2 0 = nI 0 from i5) i4 (show va_up T8b 4 (upd (T8b 4) 1 (nI v2)) 5 0 = nI p2 from i9) i10
      have fr5 : ∀ j, j ≠ 5 → (j < 13 ∨ 18 < j) → S5 j = S29 j := fun j h5 hj => by rw [j4 j (by omega) (by omega) (by omega) (by omega) (by omega) (by omega), hu1 _ S2 j h5, fr2 j h5 hj]
      have x55 : S5 5 = u1 (nI v1) S2 5 := j4 5 (by omega) (by omega) (by omega) (by omega) (by omega) (by omega)
      have b7 : NX n p2 T8c (u2 (nI v2) S5) := NX.w j5 fun j _ _ => hu2 _ S5 j (by omega)
      have g8c : ∀ j, j = 0 ∨ j = 1 ∨ j = 9 ∨ j = 10 → T8c j = T j := fun j hj => by rw [j3 j (by omega) (by omega) (by omega) (by omega) (by omega) (by omega), q_up, if_neg (by omega), g8b j hj]
      rcases t_num (T0 := T) (Sd0 := Sd) (Sd := Sd) (i := 2) (m := 3) (f := 397) (k := k) (by omega) (by omega) (by omega) (by omega) (fun p30 => some (nI 1, (p30.1, p30.2))) j1 b7 with ⟨v3, q3, p3, l1, l2, l3, l4, l5, l6, l7, l8, l9, l10, l11⟩ | ⟨T', W', e, pl, l1, l2, l3, l4, l5, l6⟩
      · rw [e7, m2] at l3
        rw [m2] at l2
        have f3 : MF S29 (u2 (nI v2) S5) := f2.trans (j4.mf.trans (MF.of5 (hu2 _ S5)))
        have h3 : TB c n (va_up T8c 4 (upd (T8c 4) 2 (nI v3))) (u2 (nI v2) S5) := h.mv (by rw [q_up, if_neg (by omega)]; exact g8c 0 (by omega)) (by rw [q_up, if_neg (by omega)]; exact g8c 1 (by omega)) f3
        obtain ⟨T27, S8, o1, o2, o3, o4, o5⟩ := nx h3 l8 (show va_up T8c 4 (upd (T8c 4) 2 (nI v3)) 2 0 = nI 0 from l5) l4 (show va_up T8c 4 (upd (T8c 4) 2 (nI v3)) 5 0 = nI p3 from l9) l10
        have fr8 : ∀ j, j ≠ 5 → (j < 13 ∨ 18 < j) → S8 j = S29 j := fun j h5 hj => by rw [o4 j (by omega) (by omega) (by omega) (by omega) (by omega) (by omega), hu2 _ S5 j h5, fr5 j h5 hj]
        have x58 : S8 5 = u2 (nI v2) S5 5 := o4 5 (by omega) (by omega) (by omega) (by omega) (by omega) (by omega)
        have b8 : NX n p3 T27 (u3 (nI v3) S8) := NX.w o5 fun j _ _ => hu3 _ S8 j (by omega) (by omega) (by omega)
        have g27 : ∀ j, j = 0 ∨ j = 1 ∨ j = 9 ∨ j = 10 → T27 j = T j := fun j hj => by rw [o3 j (by omega) (by omega) (by omega) (by omega) (by omega) (by omega), q_up, if_neg (by omega), g8c j hj]
        have rd1 : fX3_readNumbers (nI k) T Sd = some (nI 1, (va_up T8c 4 (upd (T8c 4) 2 (nI v3)), Sd)) := by
          rw [rd, c11, i11, l11, t_nums_end (m := 3) (by omega)]
        have lof : fX5_readLineOf (nI k) S31 = some (u3 (nI v3) S8) := hg S31 _ S2 _ S5 _ S8 _ _ _ x31 c3 d2 i3 j2 l3 o2 fun j hj => fr8 j (by omega) (by omega)
        have f4 : MF S29 (u3 (nI v3) S8) := f3.trans (o4.mf.trans (MF.of57 (hu3 _ S8)))
        rcases sign b8 with ⟨s1, s2, s3, s4, p', s5, s6, s7, s8⟩ | ⟨s1, T', W', e, pl, s2, s3, s4, s5, s6⟩
        · have n4 : T27 4 = upd (T8c 4) 2 (nI v3) := o3 4 (by omega) (by omega) (by omega) (by omega) (by omega) (by omega)
          have n4c : T8c 4 = upd (T8b 4) 1 (nI v2) := j3 4 (by omega) (by omega) (by omega) (by omega) (by omega) (by omega)
          have n4b : T8b 4 = upd (T8 4) 0 (nI v1) := d3 4 (by omega) (by omega) (by omega) (by omega) (by omega) (by omega)
          refine Or.inl ⟨T27, S8, S5, S2, S31, v1, v2, v3, p', c2, i2, l2, crest_ok rd1 o1 s1, ?_, ?_, ?_, ?_, s4, ⟨g27 0 (by omega), g27 1 (by omega), g27 9 (by omega), g27 10 (by omega)⟩, ?_, s7, ?_, by omega, s6, fr8, x58, x55, x52, fr31 5 (by omega)⟩
          · rw [mrest_go a2 w17 lof, s2]
          · rw [n4, n4c, n4b]
            rfl
          · rw [n4, n4c]
            rfl
          · rw [n4]
            rfl
          · rw [← hu3 (nI v3) S8 17 (by omega) (by omega) (by omega)]
            exact s3
          · rw [← hu3 (nI v3) S8 13 (by omega) (by omega) (by omega)]
            exact s8
        · refine Or.inr ⟨T', W', e, pl, crest_sign rd1 o1 s1 s2 s4, ?_, ?_, ?_, f4.trans (MF.of1718 s6), s4⟩
          · rw [mrest_go a2 w17 lof, s3]
          · rw [s5 0 (by omega) (by omega)]
            exact g27 0 (by omega)
          · rw [s5 1 (by omega) (by omega)]
            exact g27 1 (by omega)
      · rw [e7, m2] at l2
        have hb17 := l3.2.1
        have hbe : 0 < e ∧ e < 10 := ⟨l3.2.2.1, l3.2.2.2.1⟩
        have f3 : MF S29 W' := (f2.trans (j4.mf.trans (MF.of5 (hu2 _ S5)))).trans (MF.of1718 l5)
        have x6 : ∀ j, j = 6 ∨ j = 7 → W' j = S29 j := fun j hj => by rw [l5 j (by omega) (by omega), hu2 _ S5 j (by omega), fr5 j (by omega) (by omega)]
        have lof : fX5_readLineOf (nI k) S31 = some (u3 (nI 0) W') := hg S31 _ S2 _ S5 _ W' _ _ _ x31 c3 d2 i3 j2 l2 (nx_bad hb17 hbe) x6
        have hb2 : BD e pl T' (u3 (nI 0) W') := l3.w fun j _ _ => hu3 _ W' j (by omega) (by omega) (by omega)
        refine Or.inr ⟨T', _, e, pl, crest_bad (by rw [rd, c11, i11, l1]), ?_, ?_, ?_, f3.trans (MF.of57 (hu3 _ W')), hb2⟩
        · rw [mrest_go a2 w17 lof, mt_bad hb2.2.1 hbe]
        · rw [l4 0 (by omega) (by omega)]
          exact g8c 0 (by omega)
        · rw [l4 1 (by omega) (by omega)]
          exact g8c 1 (by omega)
    · rw [e7, m1] at i2
      have hb17 := i3.2.1
      have hbe : 0 < e ∧ e < 10 := ⟨i3.2.2.1, i3.2.2.2.1⟩
      have f2 : MF S29 W' := (f1.trans (d4.mf.trans (MF.of5 (hu1 _ S2)))).trans (MF.of1718 i5)
      have x6 : ∀ j, j = 6 ∨ j = 7 → u2 (nI 0) W' j = S29 j := fun j hj => by rw [hu2 _ W' j (by omega), i5 j (by omega) (by omega), hu1 _ S2 j (by omega), fr2 j (by omega) (by omega)]
      have z2 : u2 (nI 0) W' 17 0 = nI e := by rw [hu2 _ W' 17 (by omega)]; exact hb17
      have lof : fX5_readLineOf (nI k) S31 = some (u3 (nI 0) (u2 (nI 0) W')) := hg S31 _ S2 _ W' _ (u2 (nI 0) W') _ _ _ x31 c3 d2 i2 (nx_bad hb17 hbe) (lk_bad z2 hbe _ _) (nx_bad z2 hbe) x6
      have hb2 : BD e pl T' (u3 (nI 0) (u2 (nI 0) W')) := i3.w fun j _ _ => by rw [hu3 _ _ j (by omega) (by omega) (by omega), hu2 _ W' j (by omega)]
      refine Or.inr ⟨T', _, e, pl, crest_bad (by rw [rd, c11, i1]), ?_, ?_, ?_, (f2.trans (MF.of5 (hu2 _ W'))).trans (MF.of57 (hu3 _ _)), hb2⟩
      · rw [mrest_go a2 w17 lof, mt_bad hb2.2.1 hbe]
      · rw [i4 0 (by omega) (by omega)]
        exact g8b 0 (by omega)
      · rw [i4 1 (by omega) (by omega)]
        exact g8b 1 (by omega)
  · rw [e7, m0] at c2
    have hb17 := c3.2.1
    have hbe : 0 < e ∧ e < 10 := ⟨c3.2.2.1, c3.2.2.2.1⟩
    have t0 : T' 0 = T 0 := by rw [c4 0 (by omega) (by omega)]; exact a3 0 (by omega) (by omega) (by omega) (by omega) (by omega) (by omega)
    have t1 : T' 1 = T 1 := by rw [c4 1 (by omega) (by omega)]; exact a3 1 (by omega) (by omega) (by omega) (by omega) (by omega) (by omega)
    rcases c6 with c6 | c6
    · have w17 : S31 17 0 = nI 0 := by rw [← hu0 S31 17 (by omega)]; exact c6
      have z1 : u1 (nI 0) W' 17 0 = nI e := by rw [hu1 _ W' 17 (by omega)]; exact hb17
      have z2 : u2 (nI 0) (u1 (nI 0) W') 17 0 = nI e := by rw [hu2 _ _ 17 (by omega)]; exact z1
      have x6 : ∀ j, j = 6 ∨ j = 7 → u2 (nI 0) (u1 (nI 0) W') j = S29 j := fun j hj => by rw [hu2 _ _ j (by omega), hu1 _ W' j (by omega), c5 j (by omega) (by omega), hu0 S31 j (by omega), fr31 j (by omega)]
      have lof : fX5_readLineOf (nI k) S31 = some (u3 (nI 0) (u2 (nI 0) (u1 (nI 0) W'))) := hg S31 _ W' _ (u1 (nI 0) W') _ (u2 (nI 0) (u1 (nI 0) W')) _ _ _ x31 c2 (nx_bad hb17 hbe) (lk_bad z1 hbe _ _) (nx_bad z1 hbe) (lk_bad z2 hbe _ _) (nx_bad z2 hbe) x6
      have hb2 : BD e pl T' (u3 (nI 0) (u2 (nI 0) (u1 (nI 0) W'))) := c3.w fun j _ _ => by rw [hu3 _ _ j (by omega) (by omega) (by omega), hu2 _ _ j (by omega), hu1 _ W' j (by omega)]
      have f1 : MF S29 W' := (a4.mf.trans (MF.of5 (hu0 S31))).trans (MF.of1718 c5)
      refine Or.inr ⟨T', _, e, pl, crest_bad (by rw [rd, c1]), ?_, t0, t1, ((f1.trans (MF.of5 (hu1 _ W'))).trans (MF.of5 (hu2 _ _))).trans (MF.of57 (hu3 _ _)), hb2⟩
      rw [mrest_go a2 w17 lof, mt_bad hb2.2.1 hbe]
    · subst c6
      have w17 : S31 17 0 = nI e := by rw [← hu0 S31 17 (by omega)]; exact hb17
      refine Or.inr ⟨T', S31, e, pl, crest_bad (by rw [rd, c1]), mrest_no a2 w17 hbe, t0, t1, a4.mf, c3.w fun j _ _ => (hu0 S31 j (by omega)).symm⟩
end
section
/-! the draft of a text: bolts and moths are added, camphor apart -/
def spAdd (N : NN) (a s : Nat) : NN := va_up (va_up (va_up (va_up N 0 (fun _ => N 0 0 + 1)) 1 (va_up (N 1) (N 0 0) a)) 2 (va_up (N 2) (N 0 0) s)) 3 (va_up (N 3) (N 0 0) 0)
def spMo (N : NN) (kd t h a : Nat) : NN := va_up (va_up (va_up (va_up (va_up N 7 (fun _ => N 7 0 + 1)) 8 (va_up (N 8) (N 7 0) kd)) 9 (va_up (N 9) (N 7 0) t)) 10 (va_up (N 10) (N 7 0) h)) 11 (va_up (N 11) (N 7 0) a)
theorem WB.add {n : Nat} {B : BB} (h : WB n B) {k : Nat} (hk : k < 3) : WB (n + 1) (spBot B k n) := by
  intro x
  have h1 := h x
  have key : ∀ k', (spBot B k n k').count x = (B k').count x + if k' = k then (if x = n then 1 else 0) else 0 := by
    intro k'
    rw [spBot, q_up]
    by_cases e : k' = k
    · rw [if_pos e, if_pos e, e, List.count_append, List.count_singleton]
      by_cases e2 : x = n
      · simp [e2]
      · have e' : ¬ n = x := fun q => e2 q.symm
        simp [e2, e']
    · rw [if_neg e, if_neg e, Nat.add_zero]
  have k0 := key 0
  have k1 := key 1
  have k2 := key 2
  by_cases e : x = n
  · have r0 : (if x < n then 1 else 0) = 0 := if_neg (by omega)
    have r1 : (if x < n + 1 then 1 else 0) = 1 := if_pos (by omega)
    rw [r0] at h1
    rw [r1]
    rcases wb_cases hk with rfl | rfl | rfl <;> simp [e] at k0 k1 k2 h1 ⊢ <;> omega
  · have r1 : (if x < n + 1 then 1 else 0) = (if x < n then 1 else 0) := by
      by_cases e2 : x < n
      · rw [if_pos e2, if_pos (by omega)]
      · rw [if_neg e2, if_neg (by omega)]
    have r2 : ∀ k', (if k' = k then (if x = n then 1 else 0) else 0) = 0 := by
      intro k'
      rw [if_neg e]
      split <;> rfl
    rw [r1, k0, k1, k2, r2, r2, r2]
    omega
theorem WF.add {N : NN} {B : BB} (h : WF N B) {k a s : Nat} (hn : N 0 0 < 5) (hk : k < 3) (ha : a ≤ 5) (hs : s ≤ 9) : WF (spAdd N a s) (spBot B k (N 0 0)) := by
  obtain ⟨w1, w2, w3, w4, w5⟩ := h
  have p1 : 2 ^ N 0 0 < 2 ^ (N 0 0 + 1) := Nat.pow_lt_pow_right (by decide) (by omega)
  refine ⟨⟨?_, w1.2.1, ?_, w1.2.2.2.1, w1.2.2.2.2.1, w1.2.2.2.2.2.1, w1.2.2.2.2.2.2⟩, fun b hb => ?_, w3, fun i hi => ⟨?_, (w4 i hi).2⟩, ?_⟩
  · show N 0 0 + 1 ≤ 5
    omega
  · show N 4 0 < 2 ^ (N 0 0 + 1)
    omega
  · have hb' : b < N 0 0 + 1 := hb
    show va_up (N 1) (N 0 0) a b ≤ 5 ∧ va_up (N 2) (N 0 0) s b ≤ 9 ∧ va_up (N 3) (N 0 0) 0 b ≤ va_up (N 2) (N 0 0) s b
    rw [q_up, q_up, q_up]
    by_cases e : b = N 0 0
    · rw [if_pos e, if_pos e, if_pos e]
      omega
    · rw [if_neg e, if_neg e, if_neg e]
      exact w2 b (by omega)
  · have := (w4 i hi).1
    show N 16 i < N 0 0 + 1
    omega
  · exact w5.add hk
theorem WF.mo {N : NN} {B : BB} (h : WF N B) {kd t g a : Nat} (hm : N 7 0 < 4) (hk : kd ≤ 3) (ht : t ≤ 5) (hg : g ≤ 9) (ha : a ≤ 2) : WF (spMo N kd t g a) B := by
  obtain ⟨w1, w2, w3, w4, w5⟩ := h
  refine ⟨⟨w1.1, ?_, w1.2.2⟩, w2, fun m hm' => ?_, w4, w5⟩
  · show N 7 0 + 1 ≤ 4
    omega
  · have hb' : m < N 7 0 + 1 := hm'
    show va_up (N 8) (N 7 0) kd m ≤ 3 ∧ va_up (N 9) (N 7 0) t m ≤ 5 ∧ va_up (N 10) (N 7 0) g m ≤ 9 ∧ va_up (N 11) (N 7 0) a m ≤ 2
    rw [q_up, q_up, q_up, q_up]
    by_cases e : m = N 7 0
    · rw [if_pos e, if_pos e, if_pos e, if_pos e]
      omega
    · rw [if_neg e, if_neg e, if_neg e, if_neg e]
      exact w3 m (by omega)
theorem t_addBolt {N : NN} {B : BB} {S : M2} (hS : CS N B S) (hB : WB (N 0 0) B) {k a s : Nat} (hn : N 0 0 < 5) (hk : k < 3) : ∃ S', fX1_addBolt (nI a) (nI s) (nI k) S = some S' ∧ CS (spAdd N a s) (spBot B k (N 0 0)) S' := by
  obtain ⟨⟨c0, c4, c7, c12, c13, c14, c15⟩, g2, g3, g4, g5⟩ := id hS
  have hle : ∀ k, k < 3 → (B k).length ≤ 4 := fun k hk => by have := hB.le hk; omega
  have h6 := (g5 k hk).1
  have l4 := hle k hk
  have C1 : CS (spAdd N a s) B (va_up (va_up (va_up (va_up S 0 (fun _ => nI (N 0 0 + 1))) 1 (upd (S 1) (N 0 0) (nI a))) 2 (upd (S 2) (N 0 0) (nI s))) 3 (upd (S 3) (N 0 0) (nI 0))) := by
    refine ⟨⟨rfl, c4, c7, c12, c13, c14, c15⟩, fun b hb => ?_, g3, g4, g5⟩
    have hb' : b < N 0 0 + 1 := hb
    show upd (S 1) (N 0 0) (nI a) b = nI (va_up (N 1) (N 0 0) a b) ∧ upd (S 2) (N 0 0) (nI s) b = nI (va_up (N 2) (N 0 0) s b) ∧ upd (S 3) (N 0 0) (nI 0) b = nI (va_up (N 3) (N 0 0) 0 b)
    rw [q_up, q_up, q_up, q_ud, q_ud, q_ud]
    by_cases e : b = N 0 0
    · rw [if_pos e, if_pos e, if_pos e, if_pos e, if_pos e, if_pos e]
      exact ⟨rfl, rfl, rfl⟩
    · rw [if_neg e, if_neg e, if_neg e, if_neg e, if_neg e, if_neg e]
      exact g2 b (by omega)
  refine ⟨_, ?_, CS.bot (b := N 0 0) hk C1 (fun k' hk' => by have := hle k' hk'; omega) l4⟩
  have e6 : ∀ (f : Nat → Int32) (j : Nat), va_up (va_up (va_up (va_up (va_up S 0 (fun _ => nI (N 0 0 + 1))) 1 (upd (S 1) (N 0 0) (nI a))) 2 (upd (S 2) (N 0 0) (nI s))) 3 (upd (S 3) (N 0 0) (nI 0))) 5 f 6 j = S 6 j := fun _ _ => rfl
  have e7 : ∀ (j : Nat), va_up (va_up (va_up (va_up S 0 (fun _ => nI (N 0 0 + 1))) 1 (upd (S 1) (N 0 0) (nI a))) 2 (upd (S 2) (N 0 0) (nI s))) 3 (upd (S 3) (N 0 0) (nI 0)) 6 j = S 6 j := fun _ => rfl
  have a1 : va_up S 0 (fun _ => nI (N 0 0 + 1)) 1 = S 1 := rfl
  have a2 : va_up (va_up S 0 (fun _ => nI (N 0 0 + 1))) 1 (upd (S 1) (N 0 0) (nI a)) 2 = S 2 := rfl
  have a3 : va_up (va_up (va_up S 0 (fun _ => nI (N 0 0 + 1))) 1 (upd (S 1) (N 0 0) (nI a))) 2 (upd (S 2) (N 0 0) (nI s)) 3 = S 3 := rfl
  have a5 : va_up (va_up (va_up (va_up S 0 (fun _ => nI (N 0 0 + 1))) 1 (upd (S 1) (N 0 0) (nI a))) 2 (upd (S 2) (N 0 0) (nI s))) 3 (upd (S 3) (N 0 0) (nI 0)) 5 = S 5 := rfl
  have a6 : ∀ f, va_up (va_up (va_up (va_up (va_up S 0 (fun _ => nI (N 0 0 + 1))) 1 (upd (S 1) (N 0 0) (nI a))) 2 (upd (S 2) (N 0 0) (nI s))) 3 (upd (S 3) (N 0 0) (nI 0))) 5 f 6 = S 6 := fun _ => rfl
  simp (disch := omega) only [fX1_addBolt, fX1_putBelow, lt, q_lit, q_bnd, q_cl, q_lt, q_pos, q_T, nI_add, pk_mul, q_some, c0, a1, a2, a3, a5, a6, e7, h6]
  rfl
theorem t_addMoth {N : NN} {B : BB} {S : M2} (hS : CS N B S) {kd t g a : Nat} (hn : N 7 0 < 4) : ∃ S', fX1_addMoth (nI kd) (nI t) (nI g) (nI a) S = some S' ∧ CS (spMo N kd t g a) B S' := by
  obtain ⟨⟨c0, c4, c7, c12, c13, c14, c15⟩, g2, g3, g4, g5⟩ := id hS
  refine ⟨va_up (va_up (va_up (va_up (va_up S 7 (fun _ => nI (N 7 0 + 1))) 8 (upd (S 8) (N 7 0) (nI kd))) 9 (upd (S 9) (N 7 0) (nI t))) 10 (upd (S 10) (N 7 0) (nI g))) 11 (upd (S 11) (N 7 0) (nI a)), ?_, ⟨c0, c4, rfl, c12, c13, c14, c15⟩, g2, fun m hm => ?_, g4, g5⟩
  · have a1 : va_up S 7 (fun _ => nI (N 7 0 + 1)) 8 = S 8 := rfl
    have a2 : va_up (va_up S 7 (fun _ => nI (N 7 0 + 1))) 8 (upd (S 8) (N 7 0) (nI kd)) 9 = S 9 := rfl
    have a3 : va_up (va_up (va_up S 7 (fun _ => nI (N 7 0 + 1))) 8 (upd (S 8) (N 7 0) (nI kd))) 9 (upd (S 9) (N 7 0) (nI t)) 10 = S 10 := rfl
    have a4 : va_up (va_up (va_up (va_up S 7 (fun _ => nI (N 7 0 + 1))) 8 (upd (S 8) (N 7 0) (nI kd))) 9 (upd (S 9) (N 7 0) (nI t))) 10 (upd (S 10) (N 7 0) (nI g)) 11 = S 11 := rfl
    simp (disch := omega) only [fX1_addMoth, lt, q_lit, q_bnd, q_cl, q_lt, q_pos, q_T, nI_add, q_some, c7, a1, a2, a3, a4]
  · have hm' : m < N 7 0 + 1 := hm
    show upd (S 8) (N 7 0) (nI kd) m = nI (va_up (N 8) (N 7 0) kd m) ∧ upd (S 9) (N 7 0) (nI t) m = nI (va_up (N 9) (N 7 0) t m) ∧ upd (S 10) (N 7 0) (nI g) m = nI (va_up (N 10) (N 7 0) g m) ∧ upd (S 11) (N 7 0) (nI a) m = nI (va_up (N 11) (N 7 0) a m)
    rw [q_up, q_up, q_up, q_up, q_ud, q_ud, q_ud, q_ud]
    by_cases e : m = N 7 0
    · rw [if_pos e, if_pos e, if_pos e, if_pos e, if_pos e, if_pos e, if_pos e, if_pos e]
      exact ⟨rfl, rfl, rfl, rfl⟩
    · rw [if_neg e, if_neg e, if_neg e, if_neg e, if_neg e, if_neg e, if_neg e, if_neg e]
      exact g3 m (by omega)
/-- the model's row of the draft gets a bolt, a moth -/
theorem MS.add {N : NN} {B : BB} {r r' : Nat → Int32} (h : MS N B r) (hB : WB (N 0 0) B) {k a s : Nat} (hn : N 0 0 < 5) (hc : N 4 0 = 0) (hm : N 7 0 ≤ 4) (hs : N 15 0 ≤ 6) (hk : k < 3) (e0 : r' (6 * N 0 0) = nI a) (e1 : r' (6 * N 0 0 + 1) = nI s) (e2 : r' (6 * N 0 0 + 2) = nI 0) (e3 : r' (6 * N 0 0 + 3) = nI 0) (e4 : r' (6 * N 0 0 + 4) = nI k) (e5 : r' (6 * N 0 0 + 5) = nI (B k).length) (he : ∀ x, x < 6 * N 0 0 ∨ 30 ≤ x → r' x = r x) : MS (spAdd N a s) (spBot B k (N 0 0)) r' := by
  obtain ⟨⟨a1, a2, a3, a4⟩, h2, h3, h4, h5⟩ := h
  refine ⟨⟨?_, ?_, ?_, ?_⟩, fun b hb => ?_, fun m hm => ⟨?_, ?_, ?_, ?_⟩, fun i hi => ⟨?_, ?_⟩, fun k' hk' i b hb => ?_⟩
  · rw [he _ (by omega)]; exact a1
  · rw [he _ (by omega)]; exact a2
  · rw [he _ (by omega)]; exact a3
  · rw [he _ (by omega)]; exact a4
  · have hb' : b < N 0 0 + 1 := hb
    show r' (6 * b) = nI (va_up (N 1) (N 0 0) a b) ∧ r' (6 * b + 1) = nI (va_up (N 2) (N 0 0) s b) ∧ r' (6 * b + 2) = nI (va_up (N 3) (N 0 0) 0 b) ∧ r' (6 * b + 3) = nI ((N 4 0).testBit b).toNat
    rw [q_up, q_up, q_up]
    by_cases e : b = N 0 0
    · rw [if_pos e, if_pos e, if_pos e, e, hc, Nat.zero_testBit]
      exact ⟨e0, e1, e2, e3⟩
    · rw [if_neg e, if_neg e, if_neg e, he _ (by omega), he _ (by omega), he _ (by omega), he _ (by omega)]
      exact h2 b (by omega)
  · rw [he _ (by omega)]; exact (h3 m hm).1
  · rw [he _ (by omega)]; exact (h3 m hm).2.1
  · rw [he _ (by omega)]; exact (h3 m hm).2.2.1
  · rw [he _ (by omega)]; exact (h3 m hm).2.2.2
  · have hi' : i < N 15 0 := hi
    rw [he _ (by omega)]; exact (h4 i hi).1
  · have hi' : i < N 15 0 := hi
    rw [he _ (by omega)]; exact (h4 i hi).2
  · rw [spBot, q_up] at hb
    by_cases e : k' = k
    · subst e
      rw [if_pos rfl, List.getElem?_append] at hb
      by_cases e2 : i < (B k').length
      · rw [if_pos e2] at hb
        have hl := hB.lt hk (List.mem_of_getElem? hb)
        rw [he _ (by omega), he _ (by omega)]
        exact h5 k' hk' i b hb
      · rw [if_neg e2] at hb
        have e3 : i = (B k').length := by
          have := l_lt hb
          rw [List.length_singleton] at this
          omega
        subst e3
        rw [Nat.sub_self, List.getElem?_cons_zero, Option.some.injEq] at hb
        rw [← hb]
        exact ⟨e4, e5⟩
    · rw [if_neg e] at hb
      have hl := hB.lt hk' (List.mem_of_getElem? hb)
      rw [he _ (by omega), he _ (by omega)]
      exact h5 k' hk' i b hb
theorem MS.mo {N : NN} {B : BB} {r r' : Nat → Int32} (h : MS N B r) (hB : WB (N 0 0) B) {kd t g a : Nat} (hn : N 0 0 ≤ 5) (hm : N 7 0 < 4) (hs : N 15 0 ≤ 6) (e0 : r' (30 + 4 * N 7 0) = nI kd) (e1 : r' (30 + 4 * N 7 0 + 1) = nI t) (e2 : r' (30 + 4 * N 7 0 + 2) = nI g) (e3 : r' (30 + 4 * N 7 0 + 3) = nI a) (he : ∀ x, x < 30 + 4 * N 7 0 ∨ 46 ≤ x → r' x = r x) : MS (spMo N kd t g a) B r' := by
  obtain ⟨⟨a1, a2, a3, a4⟩, h2, h3, h4, h5⟩ := h
  refine ⟨⟨?_, ?_, ?_, ?_⟩, fun b hb => ⟨?_, ?_, ?_, ?_⟩, fun m hm => ?_, fun i hi => ⟨?_, ?_⟩, fun k' hk' i b hb => ?_⟩
  · rw [he _ (by omega)]; exact a1
  · rw [he _ (by omega)]; exact a2
  · rw [he _ (by omega)]; exact a3
  · rw [he _ (by omega)]; exact a4
  · have hb' : b < N 0 0 := hb
    rw [he _ (by omega)]; exact (h2 b hb).1
  · have hb' : b < N 0 0 := hb
    rw [he _ (by omega)]; exact (h2 b hb).2.1
  · have hb' : b < N 0 0 := hb
    rw [he _ (by omega)]; exact (h2 b hb).2.2.1
  · have hb' : b < N 0 0 := hb
    rw [he _ (by omega)]; exact (h2 b hb).2.2.2
  · have hm' : m < N 7 0 + 1 := hm
    show r' (30 + 4 * m) = nI (va_up (N 8) (N 7 0) kd m) ∧ r' (30 + 4 * m + 1) = nI (va_up (N 9) (N 7 0) t m) ∧ r' (30 + 4 * m + 2) = nI (va_up (N 10) (N 7 0) g m) ∧ r' (30 + 4 * m + 3) = nI (va_up (N 11) (N 7 0) a m)
    rw [q_up, q_up, q_up, q_up]
    by_cases e : m = N 7 0
    · rw [if_pos e, if_pos e, if_pos e, if_pos e, e]
      exact ⟨e0, e1, e2, e3⟩
    · rw [if_neg e, if_neg e, if_neg e, if_neg e, he _ (by omega), he _ (by omega), he _ (by omega), he _ (by omega)]
      exact h3 m (by omega)
  · have hi' : i < N 15 0 := hi
    rw [he _ (by omega)]; exact (h4 i hi).1
  · have hi' : i < N 15 0 := hi
    rw [he _ (by omega)]; exact (h4 i hi).2
  · have hl := hB.lt hk' (List.mem_of_getElem? hb)
    rw [he _ (by omega), he _ (by omega)]
    exact h5 k' hk' i b hb
theorem ms_cnt {N : NN} {B : BB} {r : Nat → Int32} (h : MS N B r) (hB : WB (N 0 0) B) {k : Nat} (hk : k < 3) {r' : Nat → Int32} (e4 : r' (6 * N 0 0 + 4) = nI k) (he : ∀ x, x < 6 * N 0 0 → r' x = r x) : spSum (fun c => (decide (r' (6 * c + 4) = r' (6 * N 0 0 + 4))).toNat) (N 0 0) = (B k).length := by
  rw [sum_congr (g := fun b => (B k).count b) (fun b hb => ?_), sum_count _ _ fun x hx => hB.lt hk hx]
  obtain ⟨k', i, hk', hi⟩ := hB.ex hb
  rw [e4, he _ (by omega), (h.2.2.2.2 k' hk' i b hi).1, (hB.nodup hk).count]
  by_cases e : b ∈ B k
  · have e2 : k' = k := hB.uq hk' hk (List.mem_of_getElem? hi) e
    simp [e, e2]
  · have e2 : ¬ nI k' = nI k := by
      rw [q_eq (by omega)]
      intro e3
      exact e (e3 ▸ List.mem_of_getElem? hi)
    simp [e, e2]
end
section
/-! a line of one number: moon, rate; camphor -/
theorem one {c : Nat → Nat} {n p k : Nat} {T S29 Sd : M2} (u : Int32 → M2 → M2) (hk : k = 6 ∨ k = 7) (h : TB c n T S29) (hp : p ≤ n) (t2 : T 2 0 = nI 0) (s17 : S29 17 0 = nI 0) (t5 : T 5 0 = nI p) (s13 : S29 13 0 = nI p) (hu : ∀ a S j, j ≠ 5 → u a S j = S j) (hg : ∀ S S1 S2 a, fX5_looked (nI (if k = 7 then 1 else 0)) (nI (moN k 0)) S = some (a, S1) → fX5_next S1 = some S2 → fX5_readLineOf (nI k) S = some (u a S2)) :
  (∃ T27 S2 v p', (if k = 7 then 1 else 0) ≤ v ∧ v ≤ moN k 0 ∧ (crest (nI k) T Sd = (fX3_take (nI k) T27 Sd).bind fun q28 => some (nI 1, (q28.1, q28.2))) ∧ mrest (nI k) S29 = fX5_next (u (nI v) S2) ∧ T27 4 0 = nI v ∧ T27 2 0 = nI 0 ∧ (T27 0 = T 0 ∧ T27 1 = T 1 ∧ T27 9 = T 9 ∧ T27 10 = T 10) ∧ S2 17 0 = nI 0 ∧ T27 5 0 = nI p' ∧ S2 13 0 = nI p' ∧ p < p' ∧ p' ≤ n ∧ (∀ j, (j < 13 ∨ 18 < j) → S2 j = S29 j)) ∨ BO k T S29 Sd := by
  have rd := rdN (k := k) (by omega) T Sd
  rw [if_pos (by omega)] at rd
  obtain ⟨T8, S31, a1, a2, a3, a4, a5⟩ := nx h hp t2 s17 t5 s13
  have fr31 : ∀ j, (j < 13 ∨ 18 < j) → S31 j = S29 j := fun j hj => a4 j (by omega) (by omega) (by omega) (by omega) (by omega) (by omega)
  rcases t_num (T0 := T) (Sd0 := Sd) (Sd := Sd) (i := 0) (m := 1) (f := 399) (k := k) (by omega) (by omega) (by omega) (by omega) (fun p30 => some (nI 1, (p30.1, p30.2))) a1 a5 with ⟨v1, q1, p1, c1, c2, c3, c4, c5, c6, c7, c8, c9, c10, c11⟩ | ⟨T', W', e, pl, c1, c2, c3, c4, c5, c6⟩
  · have g8 : ∀ j, j = 0 ∨ j = 1 ∨ j = 9 ∨ j = 10 → T8 j = T j := fun j hj => a3 j (by omega) (by omega) (by omega) (by omega) (by omega) (by omega)
    have f1 : MF S29 S31 := a4.mf
    have h1 : TB c n (va_up T8 4 (upd (T8 4) 0 (nI v1))) S31 := h.mv (by rw [q_up, if_neg (by omega)]; exact g8 0 (by omega)) (by rw [q_up, if_neg (by omega)]; exact g8 1 (by omega)) f1
    obtain ⟨T27, S2, o1, o2, o3, o4, o5⟩ := nx h1 c8 (show va_up T8 4 (upd (T8 4) 0 (nI v1)) 2 0 = nI 0 from c5) c4 (show va_up T8 4 (upd (T8 4) 0 (nI v1)) 5 0 = nI p1 from c9) c10
    have fr2 : ∀ j, (j < 13 ∨ 18 < j) → S2 j = S29 j := fun j hj => by rw [o4 j (by omega) (by omega) (by omega) (by omega) (by omega) (by omega), fr31 j hj]
    have b8 : NX n p1 T27 (u (nI v1) S2) := NX.w o5 fun j _ _ => hu _ S2 j (by omega)
    have g27 : ∀ j, j = 0 ∨ j = 1 ∨ j = 9 ∨ j = 10 → T27 j = T j := fun j hj => by rw [o3 j (by omega) (by omega) (by omega) (by omega) (by omega) (by omega), q_up, if_neg (by omega), g8 j hj]
    have rd1 : fX3_readNumbers (nI k) T Sd = some (nI 1, (va_up T8 4 (upd (T8 4) 0 (nI v1)), Sd)) := by
      rw [rd, c11, t_nums_end (m := 1) (by omega)]
    have lof : fX5_readLineOf (nI k) S31 = some (u (nI v1) S2) := hg S31 _ S2 _ c3 o2
    have f4 : MF S29 (u (nI v1) S2) := f1.trans (o4.mf.trans (MF.of5 (hu _ S2)))
    rcases sign b8 with ⟨s1, s2, s3, s4, p', s5, s6, s7, s8⟩ | ⟨s1, T', W', e, pl, s2, s3, s4, s5, s6⟩
    · have n4 : T27 4 = upd (T8 4) 0 (nI v1) := o3 4 (by omega) (by omega) (by omega) (by omega) (by omega) (by omega)
      refine Or.inl ⟨T27, S2, v1, p', c1, c2, crest_ok rd1 o1 s1, ?_, ?_, s4, ⟨g27 0 (by omega), g27 1 (by omega), g27 9 (by omega), g27 10 (by omega)⟩, ?_, s7, ?_, by omega, s6, fr2⟩
      · rw [mrest_go a2 c4 lof, s2]
      · rw [n4]
        rfl
      · rw [← hu (nI v1) S2 17 (by omega)]
        exact s3
      · rw [← hu (nI v1) S2 13 (by omega)]
        exact s8
    · refine Or.inr ⟨T', W', e, pl, crest_sign rd1 o1 s1 s2 s4, ?_, ?_, ?_, f4.trans (MF.of1718 s6), s4⟩
      · rw [mrest_go a2 c4 lof, s3]
      · rw [s5 0 (by omega) (by omega)]
        exact g27 0 (by omega)
      · rw [s5 1 (by omega) (by omega)]
        exact g27 1 (by omega)
  · have hb17 := c3.2.1
    have hbe : 0 < e ∧ e < 10 := ⟨c3.2.2.1, c3.2.2.2.1⟩
    have t0 : T' 0 = T 0 := by rw [c4 0 (by omega) (by omega)]; exact a3 0 (by omega) (by omega) (by omega) (by omega) (by omega) (by omega)
    have t1 : T' 1 = T 1 := by rw [c4 1 (by omega) (by omega)]; exact a3 1 (by omega) (by omega) (by omega) (by omega) (by omega) (by omega)
    rcases c6 with c6 | c6
    · have lof : fX5_readLineOf (nI k) S31 = some (u (nI 0) W') := hg S31 W' _ _ c2 (nx_bad hb17 hbe)
      have hb2 : BD e pl T' (u (nI 0) W') := c3.w fun j _ _ => hu _ W' j (by omega)
      refine Or.inr ⟨T', _, e, pl, crest_bad (by rw [rd, c1]), ?_, t0, t1, (a4.mf.trans (MF.of1718 c5)).trans (MF.of5 (hu _ W')), hb2⟩
      rw [mrest_go a2 c6 lof, mt_bad hb2.2.1 hbe]
    · subst c6
      refine Or.inr ⟨T', W', e, pl, crest_bad (by rw [rd, c1]), mrest_no a2 hb17 hbe, t0, t1, a4.mf, c3⟩
theorem camph {c : Nat → Nat} {n p cam : Nat} {T S29 Sd : M2} (h : TB c n T S29) (hp : p ≤ n) (t2 : T 2 0 = nI 0) (s17 : S29 17 0 = nI 0) (t5 : T 5 0 = nI p) (s13 : S29 13 0 = nI p) (hcam : cam < 32) (h9 : S29 9 0 = nI cam) (hc : Sd 4 0 = nI cam) :
  (∃ T27 W v p', v ≤ 4 ∧ crest (nI 5) T Sd = some (nI 1, (T27, va_up Sd 4 (fun _ => nI (cam ||| 2 ^ v)))) ∧ mrest (nI 5) S29 = fX5_next W ∧ T27 2 0 = nI 0 ∧ (T27 0 = T 0 ∧ T27 1 = T 1 ∧ T27 9 = T 9 ∧ T27 10 = T 10) ∧ W 17 0 = nI 0 ∧ T27 5 0 = nI p' ∧ W 13 0 = nI p' ∧ p < p' ∧ p' ≤ n ∧ W 9 0 = nI (cam ||| 2 ^ v) ∧ W 10 0 = (if nI v ≤ S29 10 0 then S29 10 0 else nI v) ∧ (∀ j, j ≠ 9 → j ≠ 10 → (j < 13 ∨ 18 < j) → W j = S29 j)) ∨ BO 5 T S29 Sd := by
  have z0 : ∀ (x : Int32 × (M2 × M2)), zb (nI 0) (some x) = some x := fun x => rfl
  have rd := rdN (k := 5) (by omega) T Sd
  rw [if_pos (by omega)] at rd
  obtain ⟨T8, S31, a1, a2, a3, a4, a5⟩ := nx h hp t2 s17 t5 s13
  have fr31 : ∀ j, (j < 13 ∨ 18 < j) → S31 j = S29 j := fun j hj => a4 j (by omega) (by omega) (by omega) (by omega) (by omega) (by omega)
  have g8 : ∀ j, j = 0 ∨ j = 1 ∨ j = 9 ∨ j = 10 → T8 j = T j := fun j hj => a3 j (by omega) (by omega) (by omega) (by omega) (by omega) (by omega)
  have m0 : moN 5 0 = 4 := rfl
  have h9' : S31 9 0 = nI cam := by rw [fr31 9 (by omega)]; exact h9
  rcases check (lo := 0) (hi := 4) a5 (by omega) with ⟨v, q, p1, b1, b2, b3, b4, b5, b6, b7, b8, b9, b10, b11, b12, b13, b14⟩ | ⟨T', W', e, pl, b1, b2, b3, b4, b5, b6⟩
  · have hw : fX4_within (nI v) (nI 0) (nI 4) = some (nI 1) := q_win ⟨b3, b4, by omega⟩
    have hh : fX1_hasCamphor (nI v) Sd = some (nI (cam.testBit v).toNat) := by
      cases e : cam.testBit v
      · simp (disch := omega) only [fX1_hasCamphor, lt, jn, q_lit, q_bnd, q_cl, q_le, q_lt, q_eq, pk_mul, nI_add, q_sub, q_div, q_pos, q_neg, q_T, q_F, q_max0, q_flg1, q_flg0, q_min, q_min2, q_bit, q_some, hc, e, Bool.toNat_false]
      · simp (disch := omega) only [fX1_hasCamphor, lt, jn, q_lit, q_bnd, q_cl, q_le, q_lt, q_eq, pk_mul, nI_add, q_sub, q_div, q_pos, q_neg, q_T, q_F, q_max0, q_flg1, q_flg0, q_min, q_min2, q_bit, q_some, hc, e, Bool.toNat_true]
    by_cases e : cam.testBit v = true
    · rw [e] at hh
      have k1 : fX3_readNumbers (nI 5) T Sd = some (nI 0, (va_up (va_up T8 2 (fun _ => nI 4)) 3 (fun _ => T8 7 0), Sd)) := by
        have L : ∀ f, fX3_readNumbers_L14 T Sd (nI 5) (nI 1) (fun p30 => some (nI 1, (p30.1, p30.2))) (f + 1) (nI 0) T Sd = some (nI 0, (va_up (va_up T8 2 (fun _ => nI 4)) 3 (fun _ => T8 7 0), Sd)) := by
          intro f
          simp (disch := omega) only [fX3_readNumbers_L14, lt, jn, q_lit, q_bnd, q_cl, q_le, q_lt, q_eq, pk_mul, nI_add, q_sub, q_div, q_pos, q_neg, q_T, q_F, q_max0, q_flg1, q_flg0, q_min, q_min2, q_bit, q_some, a1, b1, b2, t_most, m0, hw, hh, Bool.toNat_true, rf_new b7, z0]
        rw [rd]
        exact L 399
      have lof : ∃ W', fX5_readLineOf (nI 5) S31 = some W' ∧ BD 4 q (va_up (va_up T8 2 (fun _ => nI 4)) 3 (fun _ => T8 7 0)) W' ∧ MF S31 W' := by
        by_cases e2 : nI v ≤ S31 10 0
        · have hb : fX5_next (va_up (va_up (va_up (va_up S31 17 (fun _ => nI 4)) 18 (fun _ => S31 14 0)) 9 (fun _ => nI cam ||| (nI 1 <<< (nI v &&& nI 31)))) 10 (fun _ => S31 10 0)) = some _ := nx_bad (e := 4) rfl (by omega)
          refine ⟨va_up (va_up (va_up (va_up S31 17 (fun _ => nI 4)) 18 (fun _ => S31 14 0)) 9 (fun _ => nI cam ||| (nI 1 <<< (nI v &&& nI 31)))) 10 (fun _ => S31 10 0), ?_, ⟨rfl, rfl, by omega, by omega, b13, b14⟩, fun j hj => ?_⟩
          · simp (disch := omega) only [fX5_readLineOf, fX5_readCamphor, lt, jn, q_lit, q_bnd, q_cl, q_le, q_lt, q_eq, pk_mul, nI_add, q_sub, q_div, q_pos, q_neg, q_T, q_F, q_max0, q_flg1, q_flg0, q_min, q_min2, q_bit, q_some, b5, b6, h9', e, Bool.toNat_true, nd_new b6, q_up, e2, hb]
          · rw [q_up, if_neg (by omega), q_up, if_neg (by omega), q_up, if_neg (by omega), q_up, if_neg (by omega)]
        · have hb : fX5_next (va_up (va_up (va_up (va_up S31 17 (fun _ => nI 4)) 18 (fun _ => S31 14 0)) 9 (fun _ => nI cam ||| (nI 1 <<< (nI v &&& nI 31)))) 10 (fun _ => nI v)) = some _ := nx_bad (e := 4) rfl (by omega)
          refine ⟨va_up (va_up (va_up (va_up S31 17 (fun _ => nI 4)) 18 (fun _ => S31 14 0)) 9 (fun _ => nI cam ||| (nI 1 <<< (nI v &&& nI 31)))) 10 (fun _ => nI v), ?_, ⟨rfl, rfl, by omega, by omega, b13, b14⟩, fun j hj => ?_⟩
          · simp (disch := omega) only [fX5_readLineOf, fX5_readCamphor, lt, jn, q_lit, q_bnd, q_cl, q_le, q_lt, q_eq, pk_mul, nI_add, q_sub, q_div, q_pos, q_neg, q_T, q_F, q_max0, q_flg1, q_flg0, q_min, q_min2, q_bit, q_some, b5, b6, h9', e, Bool.toNat_true, nd_new b6, q_up, e2, hb]
          · rw [q_up, if_neg (by omega), q_up, if_neg (by omega), q_up, if_neg (by omega), q_up, if_neg (by omega)]
      obtain ⟨W', l1, l2, l3⟩ := lof
      refine Or.inr ⟨_, W', 4, q, crest_bad k1, ?_, ?_, ?_, a4.mf.trans l3, l2⟩
      · rw [mrest_go a2 b6 l1, mt_bad l2.2.1 (by omega)]
      · rw [q_up, if_neg (by omega), q_up, if_neg (by omega)]
        exact g8 0 (by omega)
      · rw [q_up, if_neg (by omega), q_up, if_neg (by omega)]
        exact g8 1 (by omega)
    · have e' : cam.testBit v = false := by simpa using e
      rw [e'] at hh
      have k1 : fX3_readNumbers (nI 5) T Sd = some (nI 1, (va_up T8 4 (upd (T8 4) 0 (nI v)), Sd)) := by
        have L : ∀ f, fX3_readNumbers_L14 T Sd (nI 5) (nI 1) (fun p30 => some (nI 1, (p30.1, p30.2))) (f + 1) (nI 0) T Sd = fX3_readNumbers_L14 T Sd (nI 5) (nI 1) (fun p30 => some (nI 1, (p30.1, p30.2))) f (nI (0 + 1)) (va_up T8 4 (upd (T8 4) 0 (nI v))) Sd := by
          intro f
          simp (disch := omega) only [fX3_readNumbers_L14, lt, jn, q_lit, q_bnd, q_cl, q_le, q_lt, q_eq, pk_mul, nI_add, q_sub, q_div, q_pos, q_neg, q_T, q_F, q_max0, q_flg1, q_flg0, q_min, q_min2, q_bit, q_some, a1, b1, b2, t_most, m0, hw, hh, Bool.toNat_false]
        rw [rd]
        refine (L 399).trans ?_
        exact t_nums_end (m := 1) (f := 398) (by omega) _
      have hsh : nI cam ||| (nI 1 <<< (nI v &&& nI 31)) = nI (cam ||| 2 ^ v) := by rw [q_shl (by omega), q_or]
      have stage : ∃ W0, W0 9 0 = nI (cam ||| 2 ^ v) ∧ W0 10 0 = (if nI v ≤ S29 10 0 then S29 10 0 else nI v) ∧ (∀ j, j ≠ 9 → j ≠ 10 → W0 j = S31 j) ∧ ∀ W1, fX5_next W0 = some W1 → fX5_readLineOf (nI 5) S31 = some W1 := by
        by_cases e2 : nI v ≤ S31 10 0
        · refine ⟨va_up (va_up S31 9 (fun _ => nI (cam ||| 2 ^ v))) 10 (fun _ => S31 10 0), rfl, ?_, fun j h9 h10 => by rw [q_up, if_neg h10, q_up, if_neg h9], fun W1 hn => ?_⟩
          · rw [← fr31 10 (by omega), if_pos e2]
            rfl
          · simp (disch := omega) only [fX5_readLineOf, fX5_readCamphor, lt, jn, q_lit, q_bnd, q_cl, q_le, q_lt, q_eq, pk_mul, nI_add, q_sub, q_div, q_pos, q_neg, q_T, q_F, q_max0, q_flg1, q_flg0, q_min, q_min2, q_bit, q_some, b5, b6, h9', e', Bool.toNat_false, nd_ok, q_up, hsh, e2, hn]
        · refine ⟨va_up (va_up S31 9 (fun _ => nI (cam ||| 2 ^ v))) 10 (fun _ => nI v), rfl, ?_, fun j h9 h10 => by rw [q_up, if_neg h10, q_up, if_neg h9], fun W1 hn => ?_⟩
          · rw [← fr31 10 (by omega), if_neg e2]
            rfl
          · simp (disch := omega) only [fX5_readLineOf, fX5_readCamphor, lt, jn, q_lit, q_bnd, q_cl, q_le, q_lt, q_eq, pk_mul, nI_add, q_sub, q_div, q_pos, q_neg, q_T, q_F, q_max0, q_flg1, q_flg0, q_min, q_min2, q_bit, q_some, b5, b6, h9', e', Bool.toNat_false, nd_ok, q_up, hsh, e2, hn]
      obtain ⟨W0, w9, w10, wj, wn⟩ := stage
      have f1 : MF S29 W0 := a4.mf.trans fun j hj => wj j (by omega) (by omega)
      have h1 : TB c n (va_up T8 4 (upd (T8 4) 0 (nI v))) W0 := h.mv (by rw [q_up, if_neg (by omega)]; exact g8 0 (by omega)) (by rw [q_up, if_neg (by omega)]; exact g8 1 (by omega)) f1
      obtain ⟨T27, S2, o1, o2, o3, o4, o5⟩ := nx h1 b10 (show va_up T8 4 (upd (T8 4) 0 (nI v)) 2 0 = nI 0 from b7) (by rw [wj 17 (by omega) (by omega)]; exact b6) (show va_up T8 4 (upd (T8 4) 0 (nI v)) 5 0 = nI p1 from b11) (by rw [wj 13 (by omega) (by omega)]; exact b12)
      have lof := wn S2 o2
      have fr2 : ∀ j, j ≠ 9 → j ≠ 10 → (j < 13 ∨ 18 < j) → S2 j = S29 j := fun j h9 h10 hj => by rw [o4 j (by omega) (by omega) (by omega) (by omega) (by omega) (by omega), wj j h9 h10, fr31 j hj]
      have g27 : ∀ j, j = 0 ∨ j = 1 ∨ j = 9 ∨ j = 10 → T27 j = T j := fun j hj => by rw [o3 j (by omega) (by omega) (by omega) (by omega) (by omega) (by omega), q_up, if_neg (by omega), g8 j hj]
      rcases sign o5 with ⟨s1, s2, s3, s4, p', s5, s6, s7, s8⟩ | ⟨s1, T', W', e, pl, s2, s3, s4, s5, s6⟩
      · have n4 : T27 4 = upd (T8 4) 0 (nI v) := o3 4 (by omega) (by omega) (by omega) (by omega) (by omega) (by omega)
        have n40 : T27 4 0 = nI v := by rw [n4]; rfl
        refine Or.inl ⟨T27, S2, v, p', b4, ?_, ?_, s4, ⟨g27 0 (by omega), g27 1 (by omega), g27 9 (by omega), g27 10 (by omega)⟩, s3, s7, s8, by omega, s6, ?_, ?_, fr2⟩
        · rw [crest_ok k1 o1 s1]
          simp (disch := omega) only [fX3_take, lt, jn, q_lit, q_bnd, q_cl, q_le, q_lt, q_eq, pk_mul, nI_add, q_sub, q_div, q_pos, q_neg, q_T, q_F, q_max0, q_flg1, q_flg0, q_min, q_min2, q_bit, q_some, hc, n40, hsh]
        · rw [mrest_go a2 b6 lof, s2]
        · rw [o4 9 (by omega) (by omega) (by omega) (by omega) (by omega) (by omega)]
          exact w9
        · rw [o4 10 (by omega) (by omega) (by omega) (by omega) (by omega) (by omega)]
          exact w10
      · refine Or.inr ⟨T', W', e, pl, crest_sign k1 o1 s1 s2 s4, ?_, ?_, ?_, (f1.trans o4.mf).trans (MF.of1718 s6), s4⟩
        · rw [mrest_go a2 b6 lof, s3]
        · rw [s5 0 (by omega) (by omega)]
          exact g27 0 (by omega)
        · rw [s5 1 (by omega) (by omega)]
          exact g27 1 (by omega)
  · have hb17 := b3.2.1
    have hbe : 0 < e ∧ e < 10 := ⟨b3.2.2.1, b3.2.2.2.1⟩
    have t0 : T' 0 = T 0 := by rw [b4 0 (by omega) (by omega)]; exact g8 0 (by omega)
    have t1 : T' 1 = T 1 := by rw [b4 1 (by omega) (by omega)]; exact g8 1 (by omega)
    have k1 : fX3_readNumbers (nI 5) T Sd = some (nI 0, (T', Sd)) := by
      rw [rd]
      refine (?_ : ∀ f, fX3_readNumbers_L14 T Sd (nI 5) (nI 1) (fun p30 => some (nI 1, (p30.1, p30.2))) (f + 1) (nI 0) T Sd = some (nI 0, (T', Sd))) 399
      intro f
      rcases b1 with ⟨d1, d2⟩ | ⟨d1, ⟨v, v1, v2, v3⟩, d2⟩
      · simp (disch := omega) only [fX3_readNumbers_L14, lt, jn, q_lit, q_bnd, q_cl, q_le, q_lt, q_eq, pk_mul, nI_add, q_sub, q_div, q_pos, q_neg, q_T, q_F, q_max0, q_flg1, q_flg0, q_min, q_min2, q_bit, q_some, a1, d1, d2, z0]
      · have hw : fX4_within (nI v) (nI 0) (nI 4) = some (nI 0) := by
          rw [within_b (by omega), decide_eq_false v3]
          rfl
        simp (disch := omega) only [fX3_readNumbers_L14, lt, jn, q_lit, q_bnd, q_cl, q_le, q_lt, q_eq, pk_mul, nI_add, q_sub, q_div, q_pos, q_neg, q_T, q_F, q_max0, q_flg1, q_flg0, q_min, q_min2, q_bit, q_some, a1, d1, v2, t_most, m0, hw, d2, z0]
    rcases b6 with c6 | c6
    · have lof : fX5_readLineOf (nI 5) S31 = some W' := by
        have hb := nx_bad hb17 hbe
        have hz : ¬ nI e = nI 0 := by
          rw [q_eq (by omega)]
          omega
        simp (disch := omega) only [fX5_readLineOf, fX5_readCamphor, lt, jn, q_lit, q_bnd, q_cl, q_le, q_lt, q_eq, pk_mul, nI_add, q_sub, q_div, q_pos, q_neg, q_T, q_F, q_max0, q_flg1, q_flg0, q_min, q_min2, q_bit, q_some, b2, hb17, hb]
      refine Or.inr ⟨T', _, e, pl, crest_bad k1, ?_, t0, t1, a4.mf.trans (MF.of1718 b5), b3⟩
      rw [mrest_go a2 c6 lof, mt_bad hb17 hbe]
    · subst c6
      refine Or.inr ⟨T', W', e, pl, crest_bad k1, mrest_no a2 hb17 hbe, t0, t1, a4.mf, b3⟩
end
section
/-! the draft in class and model, and a line that is taken -/
def HI (cam : Nat) (x : Int32) : Prop := (cam = 0 ∧ x = -nI 4) ∨ ∃ g, g ≤ 4 ∧ x = nI g ∧ cam.testBit g = true ∧ cam < 2 ^ (g + 1)
def DR (N : NN) (B : BB) (cam mo ra : Nat) (t9 t10 : Int32) (Sd W : M2) : Prop := WF N B ∧ (N 4 0 = 0 ∧ N 14 0 = 0 ∧ N 15 0 = 0) ∧ CS (va_up N 4 (fun _ => cam)) B Sd ∧ MS N B (W 5) ∧ (W 6 0 = nI (N 0 0) ∧ W 7 0 = nI (N 7 0)) ∧ (cam < 32 ∧ W 9 0 = nI cam ∧ HI cam (W 10 0)) ∧ (mo ≤ 1 ∧ ra ≤ 1 ∧ t9 = nI mo ∧ t10 = nI ra ∧ W 8 0 = nI (64 * mo + 128 * ra)) ∧ ∀ b, N 0 0 ≤ b → b < 5 → W 5 (6 * b + 2) = nI 0 ∧ W 5 (6 * b + 3) = nI 0
def DX (T Sd W : M2) : Prop := ∃ N B cam mo ra, DR N B cam mo ra (T 9 0) (T 10 0) Sd W
/-- only the row 5 to 10 of the model's state count -/
theorem DR.w {N : NN} {B : BB} {cam mo ra : Nat} {t9 t10 : Int32} {Sd W W' : M2} (h : DR N B cam mo ra t9 t10 Sd W) (e : ∀ j, 5 ≤ j → j ≤ 10 → W' j = W j) : DR N B cam mo ra t9 t10 Sd W' := by
  unfold DR at h ⊢
  rw [e 5 (by omega) (by omega), e 6 (by omega) (by omega), e 7 (by omega) (by omega), e 8 (by omega) (by omega), e 9 (by omega) (by omega), e 10 (by omega) (by omega)]
  exact h
def LG (k n p : Nat) (T S29 Sd : M2) : Prop := ∃ T' Sd' W p', crest (nI k) T Sd = some (nI 1, (T', Sd')) ∧ mrest (nI k) S29 = fX5_next W ∧ T' 5 0 = nI p' ∧ W 13 0 = nI p' ∧ p < p' ∧ p' ≤ n ∧ T' 2 0 = nI 0 ∧ W 17 0 = nI 0 ∧ T' 0 = T 0 ∧ T' 1 = T 1 ∧ MF S29 W ∧ DX T' Sd' W
/-- a bolt -/
theorem l_bolt {c : Nat → Nat} {n p cam mo ra : Nat} {N : NN} {B : BB} {T S29 Sd : M2} (h : TB c n T S29) (hp : p ≤ n) (t2 : T 2 0 = nI 0) (s17 : S29 17 0 = nI 0) (t5 : T 5 0 = nI p) (s13 : S29 13 0 = nI p) (hD : DR N B cam mo ra (T 9 0) (T 10 0) Sd S29) (hn : N 0 0 < 5) : LG 4 n p T S29 Sd ∨ BO 4 T S29 Sd := by
  obtain ⟨hW, ⟨n4, n14, n15⟩, hC, hM, ⟨h6, h7⟩, ⟨hc, h9, h10⟩, ⟨x1, x2, x3, x4, h8⟩, hz⟩ := hD
  have hb := fun (S : M2) (hS : ∀ j, j = 6 ∨ j = 7 → S j = S29 j) => (show S 6 0 = nI (N 0 0) by rw [hS 6 (by omega)]; exact h6)
  rcases three (k := 4) (Sd := Sd) (fun S => S) (fun a S => va_up S 5 (upd (S 5) (6 * N 0 0) a)) (fun a S => va_up S 5 (upd (S 5) (6 * N 0 0 + 1) a)) (fun a3 S8 => va_up (va_up (va_up S8 5 (upd (S8 5) (6 * N 0 0 + 4) a3)) 5 (upd (upd (S8 5) (6 * N 0 0 + 4) a3) (6 * N 0 0 + 5) (nI (spSum (fun c => (decide ((upd (S8 5) (6 * N 0 0 + 4) a3) (6 * c + 4) = (upd (S8 5) (6 * N 0 0 + 4) a3) (6 * N 0 0 + 4))).toNat) (N 0 0))))) 6 (fun _ => nI (N 0 0 + 1))) (by omega) h hp t2 s17 t5 s13 (fun S j hj => rfl) (fun a S j hj => by rw [q_up, if_neg hj]) (fun a S j hj => by rw [q_up, if_neg hj]) (fun a S j h5 h6 h7 => by rw [q_up, if_neg h6, q_up, if_neg h5, q_up, if_neg h5]) (fun S S1 S2 S4 S5 S7 S8 a1 a2 a3 hj l1 n1 l2 n2 l3 n3 hj8 => by
    have := bolt_chain hn (hb S hj) l1 n1 l2 n2 l3 n3 (hb S8 hj8)
    simp (disch := omega) only [fX5_readLineOf, lt, jn, q_lit, q_bnd, q_cl, q_le, q_lt, q_eq, pk_mul, nI_add, q_sub, q_div, q_pos, q_neg, q_T, q_F, q_max0, q_flg1, q_flg0, q_min, q_min2, q_bit, q_some, this]) with ⟨T27, S8, S5, S2, S31, v1, v2, v3, p', a1, a2, a3, b1, b2, b3, b4, b5, b6, ⟨b7, b8, b9, b10⟩, b11, b12, b13, b14, b15, b16, e8, e5, e2, e31⟩ | hbad
  · obtain ⟨Sd', d1, d2⟩ := t_addBolt (a := v1) (s := v2) (k := v3) hC hW.2.2.2.2 hn (by omega)
    have r8 : S8 5 = upd (upd (S29 5) (6 * N 0 0) (nI v1)) (6 * N 0 0 + 1) (nI v2) := by
      rw [e8]
      show upd (S5 5) (6 * N 0 0 + 1) (nI v2) = _
      rw [e5]
      show upd (upd (S2 5) (6 * N 0 0) (nI v1)) (6 * N 0 0 + 1) (nI v2) = _
      rw [e2, e31]
    have hcnt : spSum (fun c => (decide ((upd (S8 5) (6 * N 0 0 + 4) (nI v3)) (6 * c + 4) = (upd (S8 5) (6 * N 0 0 + 4) (nI v3)) (6 * N 0 0 + 4))).toNat) (N 0 0) = (B v3).length := ms_cnt hM hW.2.2.2.2 (by omega) (by rw [q_ud, if_pos rfl]) fun x hx => by
      rw [q_ud, if_neg (by omega), r8, q_ud, if_neg (by omega), q_ud, if_neg (by omega)]
    refine Or.inl ⟨T27, Sd', _, p', ?_, b2, b12, b13, b14, b15, b6, b11, b7, b8, ?_, spAdd N v1 v2, spBot B v3 (N 0 0), cam, mo, ra, hW.add hn (by omega) a1 a2, ⟨n4, n14, n15⟩, d2, ?_, ⟨rfl, ?_⟩, ⟨hc, ?_, ?_⟩, ⟨x1, x2, ?_, ?_, ?_⟩, ?_⟩
    · rw [b1]
      simp (disch := omega) only [fX3_take, lt, jn, q_lit, q_bnd, q_cl, q_le, q_lt, q_eq, pk_mul, nI_add, q_sub, q_div, q_pos, q_neg, q_T, q_F, q_max0, q_flg1, q_flg0, q_min, q_min2, q_bit, q_some, b3, b4, b5, d1]
    · exact MF.trans (fun j hj => b16 j (by omega) (by omega)) (MF.of57 fun j g5 g6 g7 => by rw [q_up, if_neg g6, q_up, if_neg g5, q_up, if_neg g5])
    · show MS _ _ (upd (upd (S8 5) (6 * N 0 0 + 4) (nI v3)) (6 * N 0 0 + 5) _)
      rw [hcnt]
      have z := hz (N 0 0) (by omega) hn
      refine hM.add hW.2.2.2.2 hn n4 hW.1.2.1 (by omega) (by omega) ?_ ?_ ?_ ?_ ?_ ?_ fun x hx => ?_
      · rw [q_ud, if_neg (by omega), q_ud, if_neg (by omega), r8, q_ud, if_neg (by omega), q_ud, if_pos rfl]
      · rw [q_ud, if_neg (by omega), q_ud, if_neg (by omega), r8, q_ud, if_pos rfl]
      · rw [q_ud, if_neg (by omega), q_ud, if_neg (by omega), r8, q_ud, if_neg (by omega), q_ud, if_neg (by omega)]
        exact z.1
      · rw [q_ud, if_neg (by omega), q_ud, if_neg (by omega), r8, q_ud, if_neg (by omega), q_ud, if_neg (by omega)]
        exact z.2
      · rw [q_ud, if_neg (by omega), q_ud, if_pos rfl]
      · rw [q_ud, if_pos rfl]
      · rw [q_ud, if_neg (by omega), q_ud, if_neg (by omega), r8, q_ud, if_neg (by omega), q_ud, if_neg (by omega)]
    · show S8 7 0 = _
      rw [b16 7 (by omega) (by omega)]
      exact h7
    · show S8 9 0 = _
      rw [b16 9 (by omega) (by omega)]
      exact h9
    · show HI cam (S8 10 0)
      rw [b16 10 (by omega) (by omega)]
      exact h10
    · rw [b9]
      exact x3
    · rw [b10]
      exact x4
    · show S8 8 0 = _
      rw [b16 8 (by omega) (by omega)]
      exact h8
    · intro b hb1 hb2
      have hb1' : N 0 0 + 1 ≤ b := hb1
      have z := hz b (by omega) hb2
      show upd (upd (S8 5) (6 * N 0 0 + 4) (nI v3)) (6 * N 0 0 + 5) _ (6 * b + 2) = nI 0 ∧ upd (upd (S8 5) (6 * N 0 0 + 4) (nI v3)) (6 * N 0 0 + 5) _ (6 * b + 3) = nI 0
      rw [r8]
      refine ⟨?_, ?_⟩
      · rw [q_ud, if_neg (by omega), q_ud, if_neg (by omega), q_ud, if_neg (by omega), q_ud, if_neg (by omega)]
        exact z.1
      · rw [q_ud, if_neg (by omega), q_ud, if_neg (by omega), q_ud, if_neg (by omega), q_ud, if_neg (by omega)]
        exact z.2
  · exact Or.inr hbad
/-- a moth -/
theorem l_moth {c : Nat → Nat} {n p k cam mo ra : Nat} {N : NN} {B : BB} {T S29 Sd : M2} (hk : k ≤ 3) (h : TB c n T S29) (hp : p ≤ n) (t2 : T 2 0 = nI 0) (s17 : S29 17 0 = nI 0) (t5 : T 5 0 = nI p) (s13 : S29 13 0 = nI p) (hD : DR N B cam mo ra (T 9 0) (T 10 0) Sd S29) (hn : N 7 0 < 4) : LG k n p T S29 Sd ∨ BO k T S29 Sd := by
  obtain ⟨hW, ⟨n4, n14, n15⟩, hC, hM, ⟨h6, h7⟩, ⟨hc, h9, h10⟩, ⟨x1, x2, x3, x4, h8⟩, hz⟩ := hD
  have w1 := hW.1
  have hb := fun (S : M2) (hS : ∀ j, j = 6 ∨ j = 7 → S j = S29 j) => (show S 7 0 = nI (N 7 0) by rw [hS 7 (by omega)]; exact h7)
  rcases three (k := k) (Sd := Sd) (fun S => va_up S 5 (upd (S 5) (30 + 4 * N 7 0) (nI k))) (fun a S => va_up S 5 (upd (S 5) (30 + 4 * N 7 0 + 1) a)) (fun a S => va_up S 5 (upd (S 5) (30 + 4 * N 7 0 + 2) a)) (fun a3 S8 => va_up (va_up S8 5 (upd (S8 5) (30 + 4 * N 7 0 + 3) a3)) 7 (fun _ => nI (N 7 0 + 1))) (by omega) h hp t2 s17 t5 s13 (fun S j hj => by rw [q_up, if_neg hj]) (fun a S j hj => by rw [q_up, if_neg hj]) (fun a S j hj => by rw [q_up, if_neg hj]) (fun a S j h5 h6 h7 => by rw [q_up, if_neg h7, q_up, if_neg h5]) (fun S S1 S2 S4 S5 S7 S8 a1 a2 a3 hj l1 n1 l2 n2 l3 n3 hj8 => by
    have := moth_chain hn (hb S hj) l1 n1 l2 n2 l3 n3 (hb S8 hj8)
    simp (disch := omega) only [fX5_readLineOf, lt, jn, q_lit, q_bnd, q_cl, q_le, q_lt, q_eq, pk_mul, nI_add, q_sub, q_div, q_pos, q_neg, q_T, q_F, q_max0, q_flg1, q_flg0, q_min, q_min2, q_bit, q_some, this]) with ⟨T27, S8, S5, S2, S31, v1, v2, v3, p', a1, a2, a3, b1, b2, b3, b4, b5, b6, ⟨b7, b8, b9, b10⟩, b11, b12, b13, b14, b15, b16, e8, e5, e2, e31⟩ | hbad
  · obtain ⟨Sd', d1, d2⟩ := t_addMoth (kd := k) (t := v1) (g := v2) (a := v3) hC hn
    have r8 : S8 5 = upd (upd (upd (S29 5) (30 + 4 * N 7 0) (nI k)) (30 + 4 * N 7 0 + 1) (nI v1)) (30 + 4 * N 7 0 + 2) (nI v2) := by
      rw [e8]
      show upd (S5 5) (30 + 4 * N 7 0 + 2) (nI v2) = _
      rw [e5]
      show upd (upd (S2 5) (30 + 4 * N 7 0 + 1) (nI v1)) (30 + 4 * N 7 0 + 2) (nI v2) = _
      rw [e2]
      show upd (upd (upd (S31 5) (30 + 4 * N 7 0) (nI k)) (30 + 4 * N 7 0 + 1) (nI v1)) (30 + 4 * N 7 0 + 2) (nI v2) = _
      rw [e31]
    refine Or.inl ⟨T27, Sd', _, p', ?_, b2, b12, b13, b14, b15, b6, b11, b7, b8, ?_, spMo N k v1 v2 v3, B, cam, mo, ra, hW.mo hn hk a1 a2 a3, ⟨n4, n14, n15⟩, d2, ?_, ⟨?_, rfl⟩, ⟨hc, ?_, ?_⟩, ⟨x1, x2, ?_, ?_, ?_⟩, ?_⟩
    · rw [b1]
      simp (disch := omega) only [fX3_take, lt, jn, q_lit, q_bnd, q_cl, q_le, q_lt, q_eq, pk_mul, nI_add, q_sub, q_div, q_pos, q_neg, q_T, q_F, q_max0, q_flg1, q_flg0, q_min, q_min2, q_bit, q_some, b3, b4, b5, d1]
    · exact MF.trans (fun j hj => b16 j (by omega) (by omega)) (MF.of57 fun j g5 g6 g7 => by rw [q_up, if_neg g7, q_up, if_neg g5])
    · show MS _ _ (upd (S8 5) (30 + 4 * N 7 0 + 3) (nI v3))
      refine hM.mo hW.2.2.2.2 w1.1 hn (by omega) ?_ ?_ ?_ ?_ fun x hx => ?_
      · rw [q_ud, if_neg (by omega), r8, q_ud, if_neg (by omega), q_ud, if_neg (by omega), q_ud, if_pos rfl]
      · rw [q_ud, if_neg (by omega), r8, q_ud, if_neg (by omega), q_ud, if_pos rfl]
      · rw [q_ud, if_neg (by omega), r8, q_ud, if_pos rfl]
      · rw [q_ud, if_pos rfl]
      · rw [q_ud, if_neg (by omega), r8, q_ud, if_neg (by omega), q_ud, if_neg (by omega), q_ud, if_neg (by omega)]
    · show S8 6 0 = _
      rw [b16 6 (by omega) (by omega)]
      exact h6
    · show S8 9 0 = _
      rw [b16 9 (by omega) (by omega)]
      exact h9
    · show HI cam (S8 10 0)
      rw [b16 10 (by omega) (by omega)]
      exact h10
    · rw [b9]
      exact x3
    · rw [b10]
      exact x4
    · show S8 8 0 = _
      rw [b16 8 (by omega) (by omega)]
      exact h8
    · intro b hb1 hb2
      have z := hz b hb1 hb2
      show upd (S8 5) (30 + 4 * N 7 0 + 3) (nI v3) (6 * b + 2) = nI 0 ∧ upd (S8 5) (30 + 4 * N 7 0 + 3) (nI v3) (6 * b + 3) = nI 0
      rw [r8]
      refine ⟨?_, ?_⟩
      · rw [q_ud, if_neg (by omega), q_ud, if_neg (by omega), q_ud, if_neg (by omega), q_ud, if_neg (by omega)]
        exact z.1
      · rw [q_ud, if_neg (by omega), q_ud, if_neg (by omega), q_ud, if_neg (by omega), q_ud, if_neg (by omega)]
        exact z.2
  · exact Or.inr hbad
theorem HI.or {cam v : Nat} {x : Int32} (h : HI cam x) (hc : cam < 32) (hv : v ≤ 4) : cam ||| 2 ^ v < 32 ∧ HI (cam ||| 2 ^ v) (if nI v ≤ x then x else nI v) := by
  have h2 : 2 ^ v < 2 ^ 5 := Nat.pow_lt_pow_right (by decide) (by omega)
  refine ⟨Nat.or_lt_two_pow (n := 5) hc h2, ?_⟩
  rcases h with ⟨rfl, rfl⟩ | ⟨g, g1, rfl, g2, g3⟩
  · have e : ¬ nI v ≤ -nI 4 := by
      rcases (by omega : v = 0 ∨ v = 1 ∨ v = 2 ∨ v = 3 ∨ v = 4) with rfl | rfl | rfl | rfl | rfl <;> decide
    rw [if_neg e, Nat.zero_or]
    refine Or.inr ⟨v, hv, rfl, ?_, Nat.pow_lt_pow_right (by decide) (by omega)⟩
    rw [Nat.testBit_two_pow]
    simp
  · by_cases e : v ≤ g
    · rw [if_pos ((q_le (by omega)).mpr e)]
      refine Or.inr ⟨g, g1, rfl, ?_, Nat.or_lt_two_pow g3 (Nat.pow_lt_pow_right (by decide) (by omega))⟩
      rw [Nat.testBit_or, g2]
      rfl
    · rw [if_neg (by rw [q_le (by omega)]; exact e)]
      refine Or.inr ⟨v, hv, rfl, ?_, Nat.or_lt_two_pow (Nat.lt_of_lt_of_le g3 (Nat.pow_le_pow_right (by decide) (by omega))) (Nat.pow_lt_pow_right (by decide) (by omega))⟩
      rw [Nat.testBit_or, Nat.testBit_two_pow]
      simp
theorem l_camph {c : Nat → Nat} {n p cam mo ra : Nat} {N : NN} {B : BB} {T S29 Sd : M2} (h : TB c n T S29) (hp : p ≤ n) (t2 : T 2 0 = nI 0) (s17 : S29 17 0 = nI 0) (t5 : T 5 0 = nI p) (s13 : S29 13 0 = nI p) (hD : DR N B cam mo ra (T 9 0) (T 10 0) Sd S29) : LG 5 n p T S29 Sd ∨ BO 5 T S29 Sd := by
  obtain ⟨hW, ⟨n4, n14, n15⟩, hC, hM, ⟨h6, h7⟩, ⟨hc, h9, h10⟩, ⟨x1, x2, x3, x4, h8⟩, hz⟩ := hD
  rcases camph h hp t2 s17 t5 s13 hc h9 (show Sd 4 0 = nI cam from hC.1.2.1) with ⟨T27, W, v, p', a1, b1, b2, b6, ⟨b7, b8, b9, b10⟩, b11, b12, b13, b14, b15, w9, w10, b16⟩ | hbad
  · have hh := h10.or hc a1
    refine Or.inl ⟨T27, _, W, p', b1, b2, b12, b13, b14, b15, b6, b11, b7, b8, fun j hj => b16 j (by omega) (by omega) (by omega), N, B, cam ||| 2 ^ v, mo, ra, hW, ⟨n4, n14, n15⟩, ?_, ?_, ⟨?_, ?_⟩, ⟨hh.1, w9, ?_⟩, ⟨x1, x2, ?_, ?_, ?_⟩, ?_⟩
    · exact hC.cam (cam ||| 2 ^ v)
    · rw [b16 5 (by omega) (by omega) (by omega)]
      exact hM
    · rw [b16 6 (by omega) (by omega) (by omega)]
      exact h6
    · rw [b16 7 (by omega) (by omega) (by omega)]
      exact h7
    · rw [w10]
      exact hh.2
    · rw [b9]
      exact x3
    · rw [b10]
      exact x4
    · rw [b16 8 (by omega) (by omega) (by omega)]
      exact h8
    · rw [b16 5 (by omega) (by omega) (by omega)]
      exact hz
  · exact Or.inr hbad
theorem MS.moon {N : NN} {B : BB} {r : Nat → Int32} (h : MS N B r) (hW : WF N B) (v : Nat) : MS (va_up N 12 (fun _ => v)) B (upd r 46 (nI v)) := by
  obtain ⟨⟨a1, a2, a3, a4⟩, h2, h3, h4, h5⟩ := h
  have w1 := hW.1
  refine ⟨⟨?_, ?_, ?_, ?_⟩, fun b hb => ?_, fun m hm => ?_, fun i hi => ?_, fun k hk i b hb => ?_⟩
  · rw [q_ud, if_pos rfl]; rfl
  · rw [q_ud, if_neg (by omega)]; exact a2
  · rw [q_ud, if_neg (by omega)]; exact a3
  · rw [q_ud, if_neg (by omega)]; exact a4
  · have hb' : b < N 0 0 := hb
    rw [q_ud, if_neg (by omega), q_ud, if_neg (by omega), q_ud, if_neg (by omega), q_ud, if_neg (by omega)]
    exact h2 b hb
  · have hm' : m < N 7 0 := hm
    rw [q_ud, if_neg (by omega), q_ud, if_neg (by omega), q_ud, if_neg (by omega), q_ud, if_neg (by omega)]
    exact h3 m hm
  · rw [q_ud, if_neg (by omega), q_ud, if_neg (by omega)]
    exact h4 i hi
  · have hl := hW.2.2.2.2.lt hk (List.mem_of_getElem? hb)
    rw [q_ud, if_neg (by omega), q_ud, if_neg (by omega)]
    exact h5 k hk i b hb
theorem MS.rate {N : NN} {B : BB} {r : Nat → Int32} (h : MS N B r) (hW : WF N B) (v : Nat) : MS (va_up N 13 (fun _ => v)) B (upd r 47 (nI v)) := by
  obtain ⟨⟨a1, a2, a3, a4⟩, h2, h3, h4, h5⟩ := h
  have w1 := hW.1
  refine ⟨⟨?_, ?_, ?_, ?_⟩, fun b hb => ?_, fun m hm => ?_, fun i hi => ?_, fun k hk i b hb => ?_⟩
  · rw [q_ud, if_neg (by omega)]; exact a1
  · rw [q_ud, if_pos rfl]; rfl
  · rw [q_ud, if_neg (by omega)]; exact a3
  · rw [q_ud, if_neg (by omega)]; exact a4
  · have hb' : b < N 0 0 := hb
    rw [q_ud, if_neg (by omega), q_ud, if_neg (by omega), q_ud, if_neg (by omega), q_ud, if_neg (by omega)]
    exact h2 b hb
  · have hm' : m < N 7 0 := hm
    rw [q_ud, if_neg (by omega), q_ud, if_neg (by omega), q_ud, if_neg (by omega), q_ud, if_neg (by omega)]
    exact h3 m hm
  · rw [q_ud, if_neg (by omega), q_ud, if_neg (by omega)]
    exact h4 i hi
  · have hl := hW.2.2.2.2.lt hk (List.mem_of_getElem? hb)
    rw [q_ud, if_neg (by omega), q_ud, if_neg (by omega)]
    exact h5 k hk i b hb
theorem l_moon {c : Nat → Nat} {n p cam ra : Nat} {N : NN} {B : BB} {T S29 Sd : M2} (h : TB c n T S29) (hp : p ≤ n) (t2 : T 2 0 = nI 0) (s17 : S29 17 0 = nI 0) (t5 : T 5 0 = nI p) (s13 : S29 13 0 = nI p) (h29 : S29 8 0 = nI (64 + 128 * ra)) (hD : DR N B cam 0 ra (T 9 0) (T 10 0) Sd (va_up S29 8 (fun _ => nI (64 * 0 + 128 * ra)))) : LG 6 n p T S29 Sd ∨ BO 6 T S29 Sd := by
  obtain ⟨hW, ⟨n4, n14, n15⟩, hC, hM, ⟨h6, h7⟩, ⟨hc, h9, h10⟩, ⟨x1, x2, x3, x4, h8⟩, hz⟩ := hD
  have w1 := hW.1
  rcases one (k := 6) (Sd := Sd) (fun a S => va_up S 5 (upd (S 5) 46 a)) (by omega) h hp t2 s17 t5 s13 (fun a S j hj => by rw [q_up, if_neg hj]) (fun S S1 S2 a l1 n1 => by
    have l1' : fX5_looked (nI 0) (nI 3) S = some (a, S1) := l1
    unfold fX5_readLineOf fX5_readNumber
    simp (disch := omega) only [lt, jn, q_lit, q_bnd, q_cl, q_le, q_lt, q_eq, pk_mul, nI_add, q_sub, q_div, q_pos, q_neg, q_T, q_F, q_max0, q_flg1, q_flg0, q_min, q_min2, q_bit, q_some, l1', n1]) with ⟨T27, S2, v, p', a0, a1, b1, b2, b3, b6, ⟨b7, b8, b9, b10⟩, b11, b12, b13, b14, b15, b16⟩ | hbad
  · have av : v ≤ 3 := a1
    have e5 : S2 5 = S29 5 := b16 5 (by omega)
    refine Or.inl ⟨va_up T27 9 (fun _ => nI 1), va_up Sd 12 (fun _ => nI v), _, p', ?_, b2, b12, b13, b14, b15, b6, b11, b7, b8, ?_, va_up N 12 (fun _ => v), B, cam, 1, ra, ?_, ⟨n4, n14, n15⟩, ?_, ?_, ⟨?_, ?_⟩, ⟨hc, ?_, ?_⟩, ⟨by omega, x2, rfl, ?_, ?_⟩, ?_⟩
    · rw [b1]
      simp (disch := omega) only [fX3_take, lt, jn, q_lit, q_bnd, q_cl, q_le, q_lt, q_eq, pk_mul, nI_add, q_sub, q_div, q_pos, q_neg, q_T, q_F, q_max0, q_flg1, q_flg0, q_min, q_min2, q_bit, q_some, b3]
    · exact MF.trans (fun j hj => b16 j (by omega)) (MF.of5 fun j g5 => by rw [q_up, if_neg g5])
    · refine ⟨⟨w1.1, w1.2.1, w1.2.2.1, av, w1.2.2.2.2⟩, hW.2.1, hW.2.2.1, hW.2.2.2.1, hW.2.2.2.2⟩
    · obtain ⟨⟨c0, c4, c7, c12, c13, c14, c15⟩, g2, g3, g4, g5⟩ := hC
      exact ⟨⟨c0, c4, c7, rfl, c13, c14, c15⟩, g2, g3, g4, g5⟩
    · show MS _ B (upd (S2 5) 46 (nI v))
      rw [e5]
      exact MS.moon hM hW v
    · show S2 6 0 = _
      rw [b16 6 (by omega)]
      exact h6
    · show S2 7 0 = _
      rw [b16 7 (by omega)]
      exact h7
    · show S2 9 0 = _
      rw [b16 9 (by omega)]
      exact h9
    · show HI cam (S2 10 0)
      rw [b16 10 (by omega)]
      exact h10
    · show T27 10 0 = _
      rw [b10]
      exact x4
    · show S2 8 0 = _
      rw [b16 8 (by omega)]
      exact h29
    · intro b hb1 hb2
      have z := hz b hb1 hb2
      show upd (S2 5) 46 (nI v) (6 * b + 2) = nI 0 ∧ upd (S2 5) 46 (nI v) (6 * b + 3) = nI 0
      rw [q_ud, if_neg (by omega), q_ud, if_neg (by omega), e5]
      exact z
  · exact Or.inr hbad
theorem l_rate {c : Nat → Nat} {n p cam mo : Nat} {N : NN} {B : BB} {T S29 Sd : M2} (h : TB c n T S29) (hp : p ≤ n) (t2 : T 2 0 = nI 0) (s17 : S29 17 0 = nI 0) (t5 : T 5 0 = nI p) (s13 : S29 13 0 = nI p) (h29 : S29 8 0 = nI (64 * mo + 128)) (hD : DR N B cam mo 0 (T 9 0) (T 10 0) Sd (va_up S29 8 (fun _ => nI (64 * mo + 128 * 0)))) : LG 7 n p T S29 Sd ∨ BO 7 T S29 Sd := by
  obtain ⟨hW, ⟨n4, n14, n15⟩, hC, hM, ⟨h6, h7⟩, ⟨hc, h9, h10⟩, ⟨x1, x2, x3, x4, h8⟩, hz⟩ := hD
  have w1 := hW.1
  rcases one (k := 7) (Sd := Sd) (fun a S => va_up S 5 (upd (S 5) 47 a)) (by omega) h hp t2 s17 t5 s13 (fun a S j hj => by rw [q_up, if_neg hj]) (fun S S1 S2 a l1 n1 => by
    have l1' : fX5_looked (nI 1) (nI 9) S = some (a, S1) := l1
    unfold fX5_readLineOf fX5_readNumber
    simp (disch := omega) only [lt, jn, q_lit, q_bnd, q_cl, q_le, q_lt, q_eq, pk_mul, nI_add, q_sub, q_div, q_pos, q_neg, q_T, q_F, q_max0, q_flg1, q_flg0, q_min, q_min2, q_bit, q_some, l1', n1]) with ⟨T27, S2, v, p', a0, a1, b1, b2, b3, b6, ⟨b7, b8, b9, b10⟩, b11, b12, b13, b14, b15, b16⟩ | hbad
  · have av : v ≤ 9 := a1
    have a0' : 1 ≤ v := a0
    have e5 : S2 5 = S29 5 := b16 5 (by omega)
    refine Or.inl ⟨va_up T27 10 (fun _ => nI 1), va_up Sd 13 (fun _ => nI v), _, p', ?_, b2, b12, b13, b14, b15, b6, b11, b7, b8, ?_, va_up N 13 (fun _ => v), B, cam, mo, 1, ?_, ⟨n4, n14, n15⟩, ?_, ?_, ⟨?_, ?_⟩, ⟨hc, ?_, ?_⟩, ⟨x1, by omega, ?_, rfl, ?_⟩, ?_⟩
    · rw [b1]
      simp (disch := omega) only [fX3_take, lt, jn, q_lit, q_bnd, q_cl, q_le, q_lt, q_eq, pk_mul, nI_add, q_sub, q_div, q_pos, q_neg, q_T, q_F, q_max0, q_flg1, q_flg0, q_min, q_min2, q_bit, q_some, b3]
    · exact MF.trans (fun j hj => b16 j (by omega)) (MF.of5 fun j g5 => by rw [q_up, if_neg g5])
    · refine ⟨⟨w1.1, w1.2.1, w1.2.2.1, w1.2.2.2.1, a0', av, w1.2.2.2.2.2.2⟩, hW.2.1, hW.2.2.1, hW.2.2.2.1, hW.2.2.2.2⟩
    · obtain ⟨⟨c0, c4, c7, c12, c13, c14, c15⟩, g2, g3, g4, g5⟩ := hC
      exact ⟨⟨c0, c4, c7, c12, rfl, c14, c15⟩, g2, g3, g4, g5⟩
    · show MS _ B (upd (S2 5) 47 (nI v))
      rw [e5]
      exact MS.rate hM hW v
    · show S2 6 0 = _
      rw [b16 6 (by omega)]
      exact h6
    · show S2 7 0 = _
      rw [b16 7 (by omega)]
      exact h7
    · show S2 9 0 = _
      rw [b16 9 (by omega)]
      exact h9
    · show HI cam (S2 10 0)
      rw [b16 10 (by omega)]
      exact h10
    · show T27 9 0 = _
      rw [b9]
      exact x3
    · show S2 8 0 = _
      rw [b16 8 (by omega)]
      exact h29
    · intro b hb1 hb2
      have z := hz b hb1 hb2
      show upd (S2 5) 47 (nI v) (6 * b + 2) = nI 0 ∧ upd (S2 5) 47 (nI v) (6 * b + 3) = nI 0
      rw [q_ud, if_neg (by omega), q_ud, if_neg (by omega), e5]
      exact z
  · exact Or.inr hbad
end
section
/-! a line: its name, and what follows -/
def ctell  (T : M2) (S : M2) : Option (Int32 × (M2 × M2)) :=
  jn (α := Option (Int32 × (M2 × M2))) (β := Int32) (fun j1 =>
    if (T 6 0) = (1 : Int32) then
      (fX3_lineNamed  T).bind fun r2 =>
      j1 r2
    else
      j1 (-1 : Int32)) (fun p4 => 
    if p4 = (-1 : Int32) then
      (fX3_refuse (2 : Int32) (T 7 0) T).bind fun q41 =>
      lt (q41.2) fun T42 =>
      zb q41.1 (some (q41.1, (T42, S)))
    else
      jn (α := Option (Int32 × (M2 × M2))) (β := Unit) (fun j6 =>
        jn (α := Option (Int32 × (M2 × M2))) (β := Unit) (fun j5 =>
          if p4 = (6 : Int32) then
            if (T 9 0) = 0 then
              j5 ()
            else
              j6 ()
          else
            j5 ()) (fun _ => 
          jn (α := Option (Int32 × (M2 × M2))) (β := Unit) (fun j10 =>
            if p4 = (7 : Int32) then
              if (T 10 0) = 0 then
                j10 ()
              else
                j6 ()
            else
              j10 ()) (fun _ => 
            jn (α := Option (Int32 × (M2 × M2))) (β := Unit) (fun j15 =>
              jn (α := Option (Int32 × (M2 × M2))) (β := Unit) (fun j14 =>
                if p4 = (4 : Int32) then
                  if (5 : Int32) ≤ (S 0 0) then
                    j15 ()
                  else
                    j14 ()
                else
                  j14 ()) (fun _ => 
                jn (α := Option (Int32 × (M2 × M2))) (β := Unit) (fun j19 =>
                  if (3 : Int32) < p4 then
                    j19 ()
                  else
                    if (S 7 0) < (4 : Int32) then
                      j19 ()
                    else
                      j15 ()) (fun _ => 
                  crest p4 T S))) (fun _ => 
              (fX3_refuse (5 : Int32) (T 7 0) T).bind fun q36 =>
              lt (q36.2) fun T37 =>
              zb q36.1 (some (q36.1, (T37, S))))))) (fun _ => 
        (fX3_refuse (4 : Int32) (T 7 0) T).bind fun q39 =>
        lt (q39.2) fun T40 =>
        zb q39.1 (some (q39.1, (T40, S)))))
theorem ctell_eq (T S : M2) : fX3_tellLine T S = ctell T S := rfl
def mr2 (p4 : Int32) (S19 : M2) : Option (M2) :=
        jn (α := Option (M2)) (β := M2) (fun j20 =>
          if (S19 17 0) = 0 then
            if p4 < (6 : Int32) then
              j20 S19
            else
              jn (α := Option (M2)) (β := Int32) (fun j21 =>
                if (((S19 8 0) >>> (p4 &&& 31)) &&& (1 : Int32)) = 0 then
                  j21 (1 : Int32)
                else
                  j21 (0 : Int32)) (fun p23 => 
                (fX5_needs p23 (4 : Int32) S19).bind fun q24 =>
                lt (q24) fun S25 =>
                lt (va_up S25 8 (fun _ => ((S25 8 0) ||| ((1 : Int32) <<< (p4 &&& 31))))) fun S26 =>
                j20 S26)
          else
            j20 S19) (fun p29 => 
          mrest p4 p29)
def mr1 (p4 : Int32) (S9 : M2) : Option (M2) :=
      jn (α := Option (M2)) (β := Int32) (fun j10 =>
        if p4 = (4 : Int32) then
          if (5 : Int32) ≤ (S9 6 0) then
            j10 (0 : Int32)
          else
            j10 (1 : Int32)
        else
          jn (α := Option (M2)) (β := Unit) (fun j11 =>
            if (4 : Int32) < p4 then
              j11 ()
            else
              if (4 : Int32) ≤ (S9 7 0) then
                j10 (0 : Int32)
              else
                j11 ()) (fun _ => 
            j10 (1 : Int32))) (fun p17 => 
        (fX5_needs p17 (5 : Int32) S9).bind fun q18 =>
        lt (q18) fun S19 => mr2 p4 S19)
def mr0 (p4 : Int32) (S : M2) : Option (M2) :=
    jn (α := Option (M2)) (β := Int32) (fun j5 =>
      if p4 = (-4 : Int32) then
        j5 (0 : Int32)
      else
        j5 (1 : Int32)) (fun p7 => 
      (fX5_needs p7 (2 : Int32) S).bind fun q8 =>
      lt (q8) fun S9 => mr1 p4 S9)
def mread  (S : M2) : Option (M2) :=
  jn (α := Option (M2)) (β := Int32) (fun j1 =>
    if (S 15 0) = (1 : Int32) then
      (fX5_lineNow  S).bind fun r2 =>
      j1 r2
    else
      j1 (-4 : Int32)) (fun p4 => mr0 p4 S)
theorem mread_eq (S : M2) : fX5_readLine S = mread S := rfl
theorem kk_no : ∀ k, k < 8 → ¬ nI k = -nI 1 ∧ ¬ nI k = -nI 4 := by decide +kernel
theorem noname {c : Nat → Nat} {n q : Nat} {T S : M2} (h : TB c n T S) (t5 : T 5 0 = nI q) (t7 : T 7 0 = nI q) (hqn : q ≤ n) : fX3_lineNamed T = some (-nI 1) := by
  have hm : ∀ k, k < 8 → mt c q q k = false := by
    intro k hk
    unfold mt
    rw [Nat.sub_self]
    have : ∀ k, k < 8 → ¬ 0 = (wd.getD k []).length := by decide +kernel
    rw [decide_eq_false (this k hk), Bool.false_and]
  unfold fX3_lineNamed
  rw [stageF (t_name h t5 t7 (Nat.le_refl _) hqn (k := 0) (by omega)), stageF (t_name h t5 t7 (Nat.le_refl _) hqn (k := 1) (by omega)), stageF (t_name h t5 t7 (Nat.le_refl _) hqn (k := 2) (by omega)), stageF (t_name h t5 t7 (Nat.le_refl _) hqn (k := 3) (by omega)), stageF (t_name h t5 t7 (Nat.le_refl _) hqn (k := 4) (by omega)), stageF (t_name h t5 t7 (Nat.le_refl _) hqn (k := 5) (by omega)), stageF (t_name h t5 t7 (Nat.le_refl _) hqn (k := 6) (by omega)), stageF (t_name h t5 t7 (Nat.le_refl _) hqn (k := 7) (by omega))]
  rw [hm 0 (by omega), hm 1 (by omega), hm 2 (by omega), hm 3 (by omega), hm 4 (by omega), hm 5 (by omega), hm 6 (by omega), hm 7 (by omega)]
  rfl
def LX (n p : Nat) (T Sd S : M2) : Prop := (∃ T' Sd' W p', fX3_tellLine T Sd = some (nI 1, (T', Sd')) ∧ fX5_readLine S = fX5_next W ∧ T' 5 0 = nI p' ∧ W 13 0 = nI p' ∧ p + 2 ≤ p' ∧ p' ≤ n ∧ T' 2 0 = nI 0 ∧ W 17 0 = nI 0 ∧ T' 0 = T 0 ∧ T' 1 = T 1 ∧ MF S W ∧ DX T' Sd' W) ∨ (∃ T' S' e pl, fX3_tellLine T Sd = some (nI 0, (T', Sd)) ∧ fX5_readLine S = some S' ∧ T' 0 = T 0 ∧ T' 1 = T 1 ∧ MF S S' ∧ BD e pl T' S')
theorem line_of {n q p k : Nat} {T Sd S S29 : M2} (hq : q < p) (h1 : ctell T Sd = crest (nI k) T Sd) (h2 : mread S = mrest (nI k) S29) (hm : MF S S29) (h3 : LG k n p T S29 Sd ∨ BO k T S29 Sd) : LX n q T Sd S := by
  rcases h3 with ⟨T', Sd', W, p', a1, a2, a3, a4, a5, a6, a7, a8, a9, a10, a11, a12⟩ | ⟨T', S', e, pl, a1, a2, a3, a4, a5, a6⟩
  · exact Or.inl ⟨T', Sd', W, p', by rw [ctell_eq, h1, a1], by rw [mread_eq, h2, a2], a3, a4, by omega, a6, a7, a8, a9, a10, hm.trans a11, a12⟩
  · exact Or.inr ⟨T', S', e, pl, by rw [ctell_eq, h1, a1], by rw [mread_eq, h2, a2], a3, a4, hm.trans a5, a6⟩
/-- a line that is refused at its name -/
theorem line_bad {n q e : Nat} {T Sd S S' : M2} (t2 : T 2 0 = nI 0) (t7 : T 7 0 = nI q) (he : 0 < e ∧ e < 10) (h1 : ctell T Sd = (fX3_refuse (nI e) (T 7 0) T).bind fun q41 => zb q41.1 (some (q41.1, (q41.2, Sd)))) (h2 : mread S = some S') (hm : MF S S') (h17 : S' 17 0 = nI e) (h18 : S' 18 0 = nI q) (p : Nat) : LX n p T Sd S := by
  refine Or.inr ⟨va_up (va_up T 2 (fun _ => nI e)) 3 (fun _ => T 7 0), S', e, q, ?_, by rw [mread_eq, h2], rfl, rfl, hm, rfl, h17, he.1, he.2, t7, h18⟩
  rw [ctell_eq, h1, rf_new t2, q_some]
  rfl
theorem mf17 {S : M2} {x y : Nat → Int32} : MF S (va_up (va_up S 17 x) 18 y) := fun j hj => by rw [q_up, if_neg (by omega), q_up, if_neg (by omega)]
theorem mf8 {S : M2} {x : Nat → Int32} : MF S (va_up S 8 x) := fun j hj => by rw [q_up, if_neg (by omega)]
theorem mr_bad {k : Int32} {S : M2} {e : Nat} (h : S 17 0 = nI e) (he : 0 < e ∧ e < 10) : mrest k S = some S := mrest_no (nx_bad h he) h he
theorem bits6 : ∀ mo, mo ≤ 1 → ∀ ra, ra ≤ 1 → (64 * mo + 128 * ra < 256 ∧ (64 * mo + 128 * ra).testBit 6 = decide (mo = 1) ∧ (64 * mo + 128 * ra).testBit 7 = decide (ra = 1) ∧ (64 * mo + 128 * ra) ||| 2 ^ 6 = 64 + 128 * ra ∧ (64 * mo + 128 * ra) ||| 2 ^ 7 = 64 * mo + 128) := by
  intro mo h1 ra h2
  rcases (by omega : mo = 0 ∨ mo = 1) with rfl | rfl <;> rcases (by omega : ra = 0 ∨ ra = 1) with rfl | rfl <;> decide
theorem mr0_ok {k : Int32} {S : M2} (h : ¬ k = -nI 4) : mr0 k S = mr1 k S := by
  simp (disch := omega) only [mr0, lt, jn, q_T, q_F, q_lit, q_neg, h, nd_ok, q_some]
theorem mr0_no {S : M2} (h : S 17 0 = nI 0) : mr0 (-nI 4) S = mr1 (-nI 4) (va_up (va_up S 17 (fun _ => nI 2)) 18 (fun _ => S 14 0)) := by
  simp (disch := omega) only [mr0, lt, jn, q_T, q_F, q_lit, q_pos, nd_new h, q_some]
theorem mr2_bad {k : Int32} {S : M2} {e : Nat} (h : S 17 0 = nI e) (he : 0 < e ∧ e < 10) : mr2 k S = some S := by
  simp (disch := omega) only [mr2, lt, jn, q_T, q_F, q_lit, q_eq, q_neg, h, mr_bad h he]
theorem mr1_bad {k : Int32} {S : M2} {e : Nat} (h : S 17 0 = nI e) (he : 0 < e ∧ e < 10) : mr1 k S = some S := by
  simp only [mr1, lt, jn, nd_bad h he, q_some, mr2_bad h he, ite_self]
theorem mr1_4 {S : M2} {nb : Nat} (h6 : S 6 0 = nI nb) (hb : nb < 5) : mr1 (nI 4) S = mr2 (nI 4) S := by
  simp (disch := omega) only [mr1, lt, jn, q_T, q_F, q_lit, q_pos, q_le, q_neg, h6, nd_ok, q_some]
theorem mr1_4b {S : M2} {nb : Nat} (h17 : S 17 0 = nI 0) (h6 : S 6 0 = nI nb) (hb : ¬ nb < 5 ∧ nb ≤ 5) : mr1 (nI 4) S = some (va_up (va_up S 17 (fun _ => nI 5)) 18 (fun _ => S 14 0)) := by
  have b3 := mr2_bad (k := nI 4) (S := va_up (va_up S 17 (fun _ => nI 5)) 18 (fun _ => S 14 0)) (e := 5) rfl (by omega)
  simp (disch := omega) only [mr1, lt, jn, q_T, q_F, q_lit, q_pos, q_le, q_neg, h6, nd_new h17, q_some, b3]
theorem mr1_m {S : M2} {nm k : Nat} (hk : k < 4) (h7 : S 7 0 = nI nm) (hb : nm < 4) : mr1 (nI k) S = mr2 (nI k) S := by
  simp (disch := omega) only [mr1, lt, jn, q_T, q_F, q_lit, q_eq, q_lt, q_le, q_neg, h7, nd_ok, q_some]
theorem mr1_mb {S : M2} {nm k : Nat} (hk : k < 4) (h17 : S 17 0 = nI 0) (h7 : S 7 0 = nI nm) (hb : ¬ nm < 4 ∧ nm ≤ 4) : mr1 (nI k) S = some (va_up (va_up S 17 (fun _ => nI 5)) 18 (fun _ => S 14 0)) := by
  have b3 := mr2_bad (k := nI k) (S := va_up (va_up S 17 (fun _ => nI 5)) 18 (fun _ => S 14 0)) (e := 5) rfl (by omega)
  simp (disch := omega) only [mr1, lt, jn, q_T, q_F, q_lit, q_eq, q_lt, q_le, q_neg, q_pos, h7, nd_new h17, q_some, b3]
theorem mr1_h {S : M2} {k : Nat} (hk : 4 < k ∧ k < 8) : mr1 (nI k) S = mr2 (nI k) S := by
  simp (disch := omega) only [mr1, lt, jn, q_T, q_F, q_lit, q_eq, q_lt, q_le, q_neg, q_pos, nd_ok, q_some]
theorem mr2_lo {S : M2} {k : Nat} (hk : k < 6) (h17 : S 17 0 = nI 0) : mr2 (nI k) S = mrest (nI k) S := by
  simp (disch := omega) only [mr2, lt, jn, q_T, q_F, q_lit, q_eq, q_lt, q_pos, h17]
theorem mr2_hi {S : M2} {k : Nat} (hk : k = 6 ∨ k = 7) (h17 : S 17 0 = nI 0) (hb : (S 8 0 >>> (nI k &&& nI 31)) &&& nI 1 = nI 0) : mr2 (nI k) S = mrest (nI k) (va_up S 8 (fun _ => S 8 0 ||| (nI 1 <<< (nI k &&& nI 31)))) := by
  simp (disch := omega) only [mr2, lt, jn, q_T, q_F, q_lit, q_eq, q_lt, q_pos, q_neg, h17, hb, nd_ok, q_some]
theorem mr2_told {S : M2} {k : Nat} (hk : k = 6 ∨ k = 7) (h17 : S 17 0 = nI 0) (hb : (S 8 0 >>> (nI k &&& nI 31)) &&& nI 1 = nI 1) : mr2 (nI k) S = some (va_up (va_up (va_up S 17 (fun _ => nI 4)) 18 (fun _ => S 14 0)) 8 (fun _ => S 8 0 ||| (nI 1 <<< (nI k &&& nI 31)))) := by
  have b3 := mr_bad (k := nI k) (S := va_up (va_up (va_up S 17 (fun _ => nI 4)) 18 (fun _ => S 14 0)) 8 (fun _ => S 8 0 ||| (nI 1 <<< (nI k &&& nI 31)))) (e := 4) rfl (by omega)
  have e8 : va_up (va_up S 17 (fun _ => nI 4)) 18 (fun _ => S 14 0) 8 0 = S 8 0 := rfl
  simp (disch := omega) only [mr2, lt, jn, q_T, q_F, q_lit, q_eq, q_lt, q_pos, q_neg, h17, hb, nd_new h17, q_some, e8, b3]
theorem mread_n {S : M2} {k : Int32} (h : S 15 0 = nI 1) (hk : fX5_lineNow S = some k) : mread S = mr0 k S := by
  simp (disch := omega) only [mread, lt, jn, q_T, q_F, q_lit, q_pos, h, hk, q_some]
theorem mread_x {S : M2} {tk : Nat} (h : S 15 0 = nI tk) (hk : tk ≠ 1 ∧ tk < 9) : mread S = mr0 (-nI 4) S := by
  simp (disch := omega) only [mread, lt, jn, q_T, q_F, q_lit, q_eq, q_neg, h]
theorem line {c : Nat → Nat} {n tk q p : Nat} {T Sd S : M2} (h : TB c n T S) (hx : TOK tk n q p T S) (ht : tk ≠ 4) (hD : DX T Sd S) : LX n q T Sd S := by
  obtain ⟨t2, s17, t5, s13, t7, s14, g1, g2, t6, s15, g3, g4, g5, g6⟩ := hx
  obtain ⟨N, B, cam, mo, ra, hD⟩ := hD
  obtain ⟨hW, hn4, hC, hM, ⟨h6, h7⟩, ⟨hc, h9, h10⟩, ⟨x1, x2, x3, x4, h8⟩, hz⟩ := id hD
  have w1 := hW.1
  have c0 : Sd 0 0 = nI (N 0 0) := hC.1.1
  have c7 : Sd 7 0 = nI (N 7 0) := hC.1.2.2.1
  rw [if_neg ht] at s15
  -- no name
  have no : ∀ (_ : mread S = some (va_up (va_up S 17 (fun _ => nI 2)) 18 (fun _ => S 14 0))) (_ : ctell T Sd = (fX3_refuse (nI 2) (T 7 0) T).bind fun q41 => zb q41.1 (some (q41.1, (q41.2, Sd)))), LX n q T Sd S := fun a b => line_bad (e := 2) t2 t7 (by omega) b a mf17 rfl s14 q
  by_cases e1 : tk = 1
  · subst e1
    rcases names h t5 t7 s13 s14 g1 g2 with ⟨k, hk, n1, n2⟩ | ⟨n1, n2⟩
    · obtain ⟨y1, y2⟩ := kk_no k hk
      have hqp : q < p := by
        by_cases e : q < p
        · exact e
        · have e' : q = p := by omega
          subst e'
          have := noname h t5 t7 g2
          rw [n1, Option.some.injEq] at this
          exact absurd this y1
      have mr := (mread_n s15 n2).trans (mr0_ok y2)
      by_cases k4 : k = 4
      · subst k4
        by_cases e5 : N 0 0 < 5
        · refine line_of hqp ?_ (mr.trans ((mr1_4 h6 e5).trans (mr2_lo (by omega) s17))) (fun _ _ => rfl) (l_bolt h g2 t2 s17 t5 s13 hD e5)
          simp (disch := omega) only [ctell, lt, jn, q_lit, q_bnd, q_cl, q_le, q_lt, q_eq, pk_mul, nI_add, q_sub, q_div, q_pos, q_neg, q_T, q_F, q_max0, q_flg1, q_flg0, q_min, q_min2, q_bit, q_some, t6, n1, y1, c0]
        · refine line_bad (e := 5) t2 t7 (by omega) ?_ (mr.trans (mr1_4b s17 h6 (by omega))) mf17 rfl s14 q
          simp (disch := omega) only [ctell, lt, jn, q_lit, q_bnd, q_cl, q_le, q_lt, q_eq, pk_mul, nI_add, q_sub, q_div, q_pos, q_neg, q_T, q_F, q_max0, q_flg1, q_flg0, q_min, q_min2, q_bit, q_some, t6, n1, y1, c0]
      · by_cases k3 : k < 4
        · by_cases e5 : N 7 0 < 4
          · refine line_of hqp ?_ (mr.trans ((mr1_m k3 h7 e5).trans (mr2_lo (by omega) s17))) (fun _ _ => rfl) (l_moth (k := k) (by omega) h g2 t2 s17 t5 s13 hD e5)
            simp (disch := omega) only [ctell, lt, jn, q_lit, q_bnd, q_cl, q_le, q_lt, q_eq, pk_mul, nI_add, q_sub, q_div, q_pos, q_neg, q_T, q_F, q_max0, q_flg1, q_flg0, q_min, q_min2, q_bit, q_some, t6, n1, y1, c7]
          · refine line_bad (e := 5) t2 t7 (by omega) ?_ (mr.trans (mr1_mb k3 s17 h7 (by omega))) mf17 rfl s14 q
            simp (disch := omega) only [ctell, lt, jn, q_lit, q_bnd, q_cl, q_le, q_lt, q_eq, pk_mul, nI_add, q_sub, q_div, q_pos, q_neg, q_T, q_F, q_max0, q_flg1, q_flg0, q_min, q_min2, q_bit, q_some, t6, n1, y1, c7]
        · obtain ⟨b1, b2, b3, b4, b5⟩ := bits6 mo x1 ra x2
          have mr := mr.trans (mr1_h (by omega))
          rcases (by omega : k = 5 ∨ k = 6 ∨ k = 7) with rfl | rfl | rfl
          · refine line_of hqp ?_ (mr.trans (mr2_lo (by omega) s17)) (fun _ _ => rfl) (l_camph h g2 t2 s17 t5 s13 hD)
            simp (disch := omega) only [ctell, lt, jn, q_lit, q_bnd, q_cl, q_le, q_lt, q_eq, pk_mul, nI_add, q_sub, q_div, q_pos, q_neg, q_T, q_F, q_max0, q_flg1, q_flg0, q_min, q_min2, q_bit, q_some, t6, n1, y1]
          · have hsh : S 8 0 ||| (nI 1 <<< (nI 6 &&& nI 31)) = nI (64 + 128 * ra) := by rw [h8, q_shl (by omega), q_or, b4]
            have hbt : (S 8 0 >>> (nI 6 &&& nI 31)) &&& nI 1 = nI (decide (mo = 1)).toNat := by rw [h8, q_bit (by omega), b2]
            by_cases em : mo = 1
            · rw [decide_eq_true em] at hbt
              have x3' : T 9 0 = nI 1 := by rw [x3, em]
              refine line_bad (e := 4) t2 t7 (by omega) ?_ (mr.trans (mr2_told (by omega) s17 hbt)) (mf17.trans mf8) rfl s14 q
              simp (disch := omega) only [ctell, lt, jn, q_lit, q_bnd, q_cl, q_le, q_lt, q_eq, pk_mul, nI_add, q_sub, q_div, q_pos, q_neg, q_T, q_F, q_max0, q_flg1, q_flg0, q_min, q_min2, q_bit, q_some, t6, n1, y1, x3']
            · rw [decide_eq_false em] at hbt
              have em0 : mo = 0 := by omega
              subst em0
              have mr := mr.trans (mr2_hi (by omega) s17 hbt)
              rw [hsh] at mr
              refine line_of hqp ?_ mr mf8 (l_moon (ra := ra) (N := N) (B := B) (cam := cam) h g2 t2 s17 t5 s13 rfl ⟨hW, hn4, hC, hM, ⟨h6, h7⟩, ⟨hc, h9, h10⟩, ⟨x1, x2, x3, x4, rfl⟩, hz⟩)
              simp (disch := omega) only [ctell, lt, jn, q_lit, q_bnd, q_cl, q_le, q_lt, q_eq, pk_mul, nI_add, q_sub, q_div, q_pos, q_neg, q_T, q_F, q_max0, q_flg1, q_flg0, q_min, q_min2, q_bit, q_some, t6, n1, y1, x3]
          · have hsh : S 8 0 ||| (nI 1 <<< (nI 7 &&& nI 31)) = nI (64 * mo + 128) := by rw [h8, q_shl (by omega), q_or, b5]
            have hbt : (S 8 0 >>> (nI 7 &&& nI 31)) &&& nI 1 = nI (decide (ra = 1)).toNat := by rw [h8, q_bit (by omega), b3]
            by_cases em : ra = 1
            · rw [decide_eq_true em] at hbt
              have x4' : T 10 0 = nI 1 := by rw [x4, em]
              refine line_bad (e := 4) t2 t7 (by omega) ?_ (mr.trans (mr2_told (by omega) s17 hbt)) (mf17.trans mf8) rfl s14 q
              simp (disch := omega) only [ctell, lt, jn, q_lit, q_bnd, q_cl, q_le, q_lt, q_eq, pk_mul, nI_add, q_sub, q_div, q_pos, q_neg, q_T, q_F, q_max0, q_flg1, q_flg0, q_min, q_min2, q_bit, q_some, t6, n1, y1, x4']
            · rw [decide_eq_false em] at hbt
              have em0 : ra = 0 := by omega
              subst em0
              have mr := mr.trans (mr2_hi (by omega) s17 hbt)
              rw [hsh] at mr
              refine line_of hqp ?_ mr mf8 (l_rate (mo := mo) (N := N) (B := B) (cam := cam) h g2 t2 s17 t5 s13 rfl ⟨hW, hn4, hC, hM, ⟨h6, h7⟩, ⟨hc, h9, h10⟩, ⟨x1, x2, x3, x4, rfl⟩, hz⟩)
              simp (disch := omega) only [ctell, lt, jn, q_lit, q_bnd, q_cl, q_le, q_lt, q_eq, pk_mul, nI_add, q_sub, q_div, q_pos, q_neg, q_T, q_F, q_max0, q_flg1, q_flg0, q_min, q_min2, q_bit, q_some, t6, n1, y1, x4]
    · refine no ((mread_n s15 n2).trans ((mr0_no s17).trans (mr1_bad (e := 2) rfl (by omega)))) ?_
      simp (disch := omega) only [ctell, lt, jn, q_lit, q_bnd, q_cl, q_le, q_lt, q_eq, pk_mul, nI_add, q_sub, q_div, q_pos, q_neg, q_T, q_F, q_max0, q_flg1, q_flg0, q_min, q_min2, q_bit, q_some, t6, n1]
  · refine no ((mread_x s15 (by omega)).trans ((mr0_no s17).trans (mr1_bad (e := 2) rfl (by omega)))) ?_
    simp (disch := omega) only [ctell, lt, jn, q_lit, q_bnd, q_cl, q_le, q_lt, q_eq, pk_mul, nI_add, q_sub, q_div, q_pos, q_neg, q_T, q_F, q_max0, q_flg1, q_flg0, q_min, q_min2, q_bit, q_some, t6, e1]
end
section
/-! the text -/
theorem DX.w {T Sd W T' W' : M2} (h : DX T Sd W) (e9 : T' 9 = T 9) (e10 : T' 10 = T 10) (e : ∀ j, 5 ≤ j → j ≤ 10 → W' j = W j) : DX T' Sd W' := by
  obtain ⟨N, B, cam, mo, ra, hD⟩ := h
  refine ⟨N, B, cam, mo, ra, ?_⟩
  rw [e9, e10]
  exact hD.w e
def LZ (n : Nat) (v' : Nat) (v'' : Int32) (T' Sd' S' : M2) : Prop := (∃ e pl, BD e pl T' S') ∨ (v'' = nI v' ∧ T' 2 0 = nI 0 ∧ S' 17 0 = nI 0 ∧ S' 14 0 = nI n ∧ DX T' Sd' S')
theorem x5_end {kk : (Int32 × M2) → Option (Int32 × M2)} {g e : Nat} {v : Int32} {S : M2} (h : S 17 0 = nI e) (he : 0 < e ∧ e < 10) : fX5_text_L20 kk (g + 1) v S = kk (v, S) := by
  simp (disch := omega) only [fX5_text_L20, lt, jn, q_lit, q_bnd, q_cl, q_le, q_lt, q_eq, pk_mul, nI_add, q_sub, q_div, q_pos, q_neg, q_T, q_F, q_max0, q_flg1, q_flg0, q_min, q_min2, q_bit, q_some, h]
theorem lines {c : Nat → Nat} {n : Nat} : ∀ (f g d p v : Nat) (T Sd S : M2), TB c n T S → NX n p T S → DX T Sd S → p + d = n → 2 * v ≤ p → d < f → d + 1 < g → ∃ (v' : Nat) (T' Sd' : M2) (v'' : Int32) (S' : M2), (∀ (T0 S0 : M2) (kk : (Int32 × M2 × M2) → Option (Int32 × (M2 × M2))), fX3_tellInto_L30 T0 S0 kk f (nI v) T Sd = kk (nI v', T', Sd')) ∧ (∀ kk : (Int32 × M2) → Option (Int32 × M2), fX5_text_L20 kk g (nI v) S = kk (v'', S')) ∧ T' 0 = T 0 ∧ T' 1 = T 1 ∧ MF S S' ∧ LZ n v' v'' T' Sd' S'
  | 0, g, d, p, v, T, Sd, S, _, _, _, _, _, hf, _ => absurd hf (Nat.not_lt_zero _)
  | f + 1, 0, d, p, v, T, Sd, S, _, _, _, _, _, _, hg => absurd hg (Nat.not_lt_zero _)
  | f + 1, 1, d, p, v, T, Sd, S, _, _, _, _, _, _, hg => absurd hg (by omega)
  | f + 1, g + 2, d, p, v, T, Sd, S, h, hx, hD, hp, hv, hf, hg => by
    have h1 := h.1
    rcases hx with ⟨tk, q, p1, hpq, tok⟩ | ⟨pl, bd, t6⟩
    · obtain ⟨t2, s17, t5, s13, t7, s14, g1, g2, t6, s15, g3, g4, g5, g6⟩ := id tok
      by_cases e4 : tk = 4
      · have hq := g4 e4
        rw [if_pos e4] at s15
        rw [e4] at t6
        refine ⟨v, T, Sd, nI v, S, fun T0 S0 kk => ?_, fun kk => ?_, rfl, rfl, fun _ _ => rfl, Or.inr ⟨rfl, t2, s17, by rw [s14, hq], hD⟩⟩
        · simp (disch := omega) only [fX3_tellInto_L30, lt, jn, q_lit, q_bnd, q_cl, q_le, q_lt, q_eq, pk_mul, nI_add, q_sub, q_div, q_pos, q_neg, q_T, q_F, q_max0, q_flg1, q_flg0, q_min, q_min2, q_bit, q_some, t6]
        · simp (disch := omega) only [fX5_text_L20, lt, jn, q_lit, q_bnd, q_cl, q_le, q_lt, q_eq, pk_mul, nI_add, q_sub, q_div, q_pos, q_neg, q_T, q_F, q_max0, q_flg1, q_flg0, q_min, q_min2, q_bit, q_some, s17, s15]
      · rw [if_neg e4] at s15
        rcases line h tok e4 hD with ⟨T', Sd', W, p', a1, a2, a3, a4, a5, a6, a7, a8, a9, a10, a11, a12⟩ | ⟨T', S', e, pl, a1, a2, a3, a4, a5, a6⟩
        · obtain ⟨T2, S2, b1, b2, b3, b4, b5⟩ := nx (h.mv a9 a10 a11) a6 a7 a8 a3 a4
          have hD2 : DX T2 Sd' S2 := a12.w (b3 9 (by omega) (by omega) (by omega) (by omega) (by omega) (by omega)) (b3 10 (by omega) (by omega) (by omega) (by omega) (by omega) (by omega)) fun j _ _ => b4 j (by omega) (by omega) (by omega) (by omega) (by omega) (by omega)
          have t0 : T2 0 = T 0 := by rw [b3 0 (by omega) (by omega) (by omega) (by omega) (by omega) (by omega), a9]
          have t1 : T2 1 = T 1 := by rw [b3 1 (by omega) (by omega) (by omega) (by omega) (by omega) (by omega), a10]
          have hm : MF S S2 := a11.trans b4.mf
          obtain ⟨v', T3, Sd3, v'', S3, c1, c2, c3, c4, c5, c6⟩ := lines f (g + 1) (n - p') p' (v + 1) T2 Sd' S2 (h.mv t0 t1 hm) b5 hD2 (by omega) (by omega) (by omega) (by omega)
          refine ⟨v', T3, Sd3, v'', S3, fun T0 S0 kk => ?_, fun kk => ?_, by rw [c3, t0], by rw [c4, t1], hm.trans c5, c6⟩
          · rw [← c1 T0 S0 kk]
            simp (disch := omega) only [fX3_tellInto_L30, lt, jn, q_lit, q_bnd, q_cl, q_le, q_lt, q_eq, pk_mul, nI_add, q_sub, q_div, q_pos, q_neg, q_T, q_F, q_max0, q_flg1, q_flg0, q_min, q_min2, q_bit, q_some, t6, a1, b1]
          · rw [← c2 kk]
            rw [b2] at a2
            rw [fX5_text_L20]
            simp (disch := omega) only [lt, jn, q_lit, q_bnd, q_cl, q_le, q_lt, q_eq, pk_mul, nI_add, q_sub, q_div, q_pos, q_neg, q_T, q_F, q_max0, q_flg1, q_flg0, q_min, q_min2, q_bit, q_some, s17, s15, a2]
        · refine ⟨v, T', Sd, nI (v + 1), S', fun T0 S0 kk => ?_, fun kk => ?_, a3, a4, a5, Or.inl ⟨e, pl, a6⟩⟩
          · simp (disch := omega) only [fX3_tellInto_L30, lt, jn, q_lit, q_bnd, q_cl, q_le, q_lt, q_eq, pk_mul, nI_add, q_sub, q_div, q_pos, q_neg, q_T, q_F, q_max0, q_flg1, q_flg0, q_min, q_min2, q_bit, q_some, t6, a1]
          · have he := x5_end (kk := kk) (g := g) (v := nI (v + 1)) a6.2.1 ⟨a6.2.2.1, a6.2.2.2.1⟩
            rw [← he]
            rw [fX5_text_L20]
            simp (disch := omega) only [lt, jn, q_lit, q_bnd, q_cl, q_le, q_lt, q_eq, pk_mul, nI_add, q_sub, q_div, q_pos, q_neg, q_T, q_F, q_max0, q_flg1, q_flg0, q_min, q_min2, q_bit, q_some, s17, s15, a2]
    · obtain ⟨t2, s17, e1, e2, t3, s18⟩ := id bd
      have hr := rf_bad t2 (by omega)
      refine ⟨v, T, Sd, nI v, S, fun T0 S0 kk => ?_, fun kk => x5_end s17 (by omega), rfl, rfl, fun _ _ => rfl, Or.inl ⟨1, pl, bd⟩⟩
      have ht : fX3_tellLine T Sd = some (nI 0, (T, Sd)) := by
        rw [ctell_eq]
        simp (disch := omega) only [ctell, lt, jn, q_lit, q_bnd, q_cl, q_le, q_lt, q_eq, pk_mul, nI_add, q_sub, q_div, q_pos, q_neg, q_T, q_F, q_max0, q_flg1, q_flg0, q_min, q_min2, q_bit, q_some, t6, hr]
        rfl
      simp (disch := omega) only [fX3_tellInto_L30, lt, jn, q_lit, q_bnd, q_cl, q_le, q_lt, q_eq, pk_mul, nI_add, q_sub, q_div, q_pos, q_neg, q_T, q_F, q_max0, q_flg1, q_flg0, q_min, q_min2, q_bit, q_some, t6, ht]
/-- the class's empty draft -/
def N0 : NN := fun k _ => if k = 13 then 1 else 0
def B0 : BB := fun _ => []
theorem wb0 : WB 0 B0 := fun x => by
  rw [if_neg (by omega)]
  rfl
theorem wf0 : WF N0 B0 := by
  refine ⟨⟨by decide, by decide, by decide, by decide, by decide, by decide, by decide⟩, fun b hb => absurd hb (Nat.not_lt_zero _), fun b hb => absurd hb (Nat.not_lt_zero _), fun b hb => absurd hb (Nat.not_lt_zero _), wb0⟩
theorem t_empty (S : M2) : ∃ S', fX1_makeEmpty S = some S' ∧ CS (va_up N0 4 (fun _ => 0)) B0 S' := by
  refine ⟨va_up (va_up (va_up (va_up (va_up (va_up (va_up (va_up S 0 (fun _ => nI 0)) 4 (fun _ => nI 0)) 7 (fun _ => nI 0)) 12 (fun _ => nI 0)) 13 (fun _ => nI 1)) 14 (fun _ => nI 0)) 15 (fun _ => nI 0)) 6 (upd (upd (upd (S 6) 0 (nI 0)) 1 (nI 0)) 2 (nI 0)), ?_, ⟨rfl, rfl, rfl, rfl, rfl, rfl, rfl⟩, fun b hb => absurd hb (Nat.not_lt_zero _), fun b hb => absurd hb (Nat.not_lt_zero _), fun b hb => absurd hb (Nat.not_lt_zero _), fun k hk => ⟨?_, fun i b hb => ?_⟩⟩
  · have L : ∀ (S : M2) (f : Nat), fX1_makeEmpty_L37 (fun p13 => some p13) (f + 4) (nI 0) S = some (va_up S 6 (upd (upd (upd (S 6) 0 (nI 0)) 1 (nI 0)) 2 (nI 0))) := by
      intro S f
      simp (disch := omega) only [fX1_makeEmpty_L37, lt, jn, q_lit, q_bnd, q_cl, q_le, q_lt, q_eq, pk_mul, nI_add, q_sub, q_div, q_pos, q_neg, q_T, q_F, q_max0, q_flg1, q_flg0, q_min, q_min2, q_bit, q_some, q_up, up_up]
    unfold fX1_makeEmpty
    simp only [lt]
    exact L _ 396
  · rcases wb_cases hk with rfl | rfl | rfl <;> rfl
  · exact absurd hb (by rw [B0, List.getElem?_nil]; exact fun h => nomatch h)
theorem m_first_L : ∀ (d j f : Nat) (S : M2), j + d = 62 → d < f → ∃ S', (∀ kk : M2 → Option M2, fX5_firstDraft_L2 kk f (nI j) S = kk S') ∧ (∀ q, q ≠ 5 → S' q = S q) ∧ ∀ x, S' 5 x = if j ≤ x ∧ x < 62 then nI 0 else S 5 x
  | 0, j, f + 1, S, hj, hf => by
    have e : j = 62 := by omega
    subst e
    refine ⟨S, fun kk => ?_, fun _ _ => rfl, fun x => ?_⟩
    · simp (disch := omega) only [fX5_firstDraft_L2, lt, jn, q_lit, q_bnd, q_cl, q_le, q_lt, q_eq, pk_mul, nI_add, q_sub, q_div, q_pos, q_neg, q_T, q_F, q_max0, q_flg1, q_flg0, q_min, q_min2, q_bit, q_some]
    · rw [if_neg (by omega)]
  | d + 1, j, f + 1, S, hj, hf => by
    obtain ⟨S', a1, a2, a3⟩ := m_first_L d (j + 1) f (va_up S 5 (upd (S 5) j (nI 0))) (by omega) (by omega)
    refine ⟨S', fun kk => ?_, fun q hq => ?_, fun x => ?_⟩
    · rw [← a1 kk]
      simp (disch := omega) only [fX5_firstDraft_L2, lt, jn, q_lit, q_bnd, q_cl, q_le, q_lt, q_eq, pk_mul, nI_add, q_sub, q_div, q_pos, q_neg, q_T, q_F, q_max0, q_flg1, q_flg0, q_min, q_min2, q_bit, q_some]
    · rw [a2 q hq, q_up, if_neg hq]
    · rw [a3 x, q_up, if_pos rfl, q_ud]
      by_cases e : x = j
      · subst e
        rw [if_neg (by omega), if_pos rfl, if_pos (by omega)]
      · by_cases e2 : j + 1 ≤ x ∧ x < 62
        · rw [if_pos e2, if_pos (by omega)]
        · rw [if_neg e2, if_neg e, if_neg (by omega)]
theorem m_first (S : M2) : ∃ S', fX5_firstDraft S = some S' ∧ (∀ j, (j < 5 ∨ 10 < j) → S' j = S j) ∧ MS N0 B0 (S' 5) ∧ S' 6 0 = nI 0 ∧ S' 7 0 = nI 0 ∧ S' 8 0 = nI 0 ∧ S' 9 0 = nI 0 ∧ S' 10 0 = -nI 4 ∧ ∀ b, b < 5 → S' 5 (6 * b + 2) = nI 0 ∧ S' 5 (6 * b + 3) = nI 0 := by
  obtain ⟨S1, a1, a2, a3⟩ := m_first_L 62 0 400 S (by omega) (by omega)
  have z : ∀ x, x < 62 → S1 5 x = nI 0 := fun x hx => by rw [a3 x, if_pos (by omega)]
  refine ⟨va_up (va_up (va_up (va_up (va_up (va_up S1 5 (upd (S1 5) 47 (nI 1))) 6 (fun _ => nI 0)) 7 (fun _ => nI 0)) 8 (fun _ => nI 0)) 9 (fun _ => nI 0)) 10 (fun _ => -nI 4), ?_, fun j hj => ?_, ⟨⟨?_, ?_, ?_, ?_⟩, fun b hb => absurd hb (Nat.not_lt_zero _), fun b hb => absurd hb (Nat.not_lt_zero _), fun b hb => absurd hb (Nat.not_lt_zero _), fun k hk i b hb => ?_⟩, rfl, rfl, rfl, rfl, rfl, fun b hb => ?_⟩
  · unfold fX5_firstDraft
    refine (a1 _).trans ?_
    simp (disch := omega) only [lt, jn, q_lit, q_bnd, q_cl, q_le, q_lt, q_eq, pk_mul, nI_add, q_sub, q_div, q_pos, q_neg, q_T, q_F, q_max0, q_flg1, q_flg0, q_min, q_min2, q_bit, q_some]
  · rw [q_up, if_neg (by omega), q_up, if_neg (by omega), q_up, if_neg (by omega), q_up, if_neg (by omega), q_up, if_neg (by omega), q_up, if_neg (by omega), a2 j (by omega)]
  · show upd (S1 5) 47 (nI 1) 46 = _
    rw [q_ud, if_neg (by omega), z 46 (by omega)]
    rfl
  · rfl
  · show upd (S1 5) 47 (nI 1) 48 = _
    rw [q_ud, if_neg (by omega), z 48 (by omega)]
    rfl
  · show upd (S1 5) 47 (nI 1) 49 = _
    rw [q_ud, if_neg (by omega), z 49 (by omega)]
    rfl
  · exact absurd hb (by rw [B0, List.getElem?_nil]; exact fun h => nomatch h)
  · show upd (S1 5) 47 (nI 1) (6 * b + 2) = _ ∧ upd (S1 5) 47 (nI 1) (6 * b + 3) = _
    rw [q_ud, if_neg (by omega), q_ud, if_neg (by omega), z _ (by omega), z _ (by omega)]
    exact ⟨rfl, rfl⟩
/-- what the model keeps of its draft -/
theorem m_keep_L : ∀ (d j f : Nat) (S : M2), j + d = 62 → d < f → ∃ S', (∀ kk : M2 → Option M2, fX5_keepDraft_L2 kk f (nI j) S = kk S') ∧ (∀ q, q ≠ 0 → S' q = S q) ∧ ∀ x, S' 0 x = if j ≤ x ∧ x < 62 then S 5 x else S 0 x
  | 0, j, f + 1, S, hj, hf => by
    have e : j = 62 := by omega
    subst e
    refine ⟨S, fun kk => ?_, fun _ _ => rfl, fun x => ?_⟩
    · simp (disch := omega) only [fX5_keepDraft_L2, lt, jn, q_lit, q_bnd, q_cl, q_le, q_lt, q_eq, pk_mul, nI_add, q_sub, q_div, q_pos, q_neg, q_T, q_F, q_max0, q_flg1, q_flg0, q_min, q_min2, q_bit, q_some]
    · rw [if_neg (by omega)]
  | d + 1, j, f + 1, S, hj, hf => by
    obtain ⟨S', a1, a2, a3⟩ := m_keep_L d (j + 1) f (va_up S 0 (upd (S 0) j (S 5 j))) (by omega) (by omega)
    refine ⟨S', fun kk => ?_, fun q hq => ?_, fun x => ?_⟩
    · rw [← a1 kk]
      simp (disch := omega) only [fX5_keepDraft_L2, lt, jn, q_lit, q_bnd, q_cl, q_le, q_lt, q_eq, pk_mul, nI_add, q_sub, q_div, q_pos, q_neg, q_T, q_F, q_max0, q_flg1, q_flg0, q_min, q_min2, q_bit, q_some]
    · rw [a2 q hq, q_up, if_neg hq]
    · have e5 : va_up S 0 (upd (S 0) j (S 5 j)) 5 x = S 5 x := rfl
      have e0 : va_up S 0 (upd (S 0) j (S 5 j)) 0 x = upd (S 0) j (S 5 j) x := rfl
      rw [a3 x, e5, e0, q_ud]
      by_cases e : x = j
      · subst e
        rw [if_neg (by omega), if_pos rfl, if_pos (by omega)]
      · by_cases e2 : j + 1 ≤ x ∧ x < 62
        · rw [if_pos e2, if_pos (by omega)]
        · rw [if_neg e2, if_neg e, if_neg (by omega)]
theorem m_cam44 {cam nb : Nat} (hc : cam < 32) (hn : nb ≤ 5) : ∀ (d j f : Nat) (S : M2), S 3 0 = nI nb → S 9 0 = nI cam → j + d = nb → d < f → ∃ S', (∀ kk : M2 → Option M2, fX5_keepDraft_L44 kk f (nI j) S = kk S') ∧ (∀ q, q ≠ 0 → S' q = S q) ∧ (∀ b, j ≤ b → b < nb → S' 0 (6 * b + 3) = nI (cam.testBit b).toNat) ∧ ∀ x, (∀ b, j ≤ b → b < nb → x ≠ 6 * b + 3) → S' 0 x = S 0 x
  | 0, j, f + 1, S, h3, h9, hj, hf => by
    have e : j = nb := by omega
    subst e
    refine ⟨S, fun kk => ?_, fun _ _ => rfl, fun b hb hb2 => absurd hb (by omega), fun x _ => rfl⟩
    simp (disch := omega) only [fX5_keepDraft_L44, lt, jn, q_lit, q_bnd, q_cl, q_le, q_lt, q_eq, pk_mul, nI_add, q_sub, q_div, q_pos, q_neg, q_T, q_F, q_max0, q_flg1, q_flg0, q_min, q_min2, q_bit, q_some, h3]
  | d + 1, j, f + 1, S, h3, h9, hj, hf => by
    obtain ⟨S', a1, a2, a3, a4⟩ := m_cam44 hc hn d (j + 1) f (va_up S 0 (upd (S 0) (6 * j + 3) (nI (cam.testBit j).toNat))) h3 h9 (by omega) (by omega)
    refine ⟨S', fun kk => ?_, fun q hq => ?_, fun b hb hb2 => ?_, fun x hx => ?_⟩
    · rw [← a1 kk]
      simp (disch := omega) only [fX5_keepDraft_L44, lt, jn, q_lit, q_bnd, q_cl, q_le, q_lt, q_eq, pk_mul, nI_add, q_sub, q_div, q_pos, q_neg, q_T, q_F, q_max0, q_flg1, q_flg0, q_min, q_min2, q_bit, q_some, h3, h9]
    · rw [a2 q hq, q_up, if_neg hq]
    · by_cases e : b = j
      · subst e
        rw [a4 _ fun c hc hc2 => by omega, q_up, if_pos rfl, q_ud, if_pos rfl]
      · exact a3 b (by omega) hb2
    · rw [a4 x fun b hb hb2 => hx b (by omega) hb2, q_up, if_pos rfl, q_ud, if_neg (hx j (by omega) (by omega))]
theorem m_keepDraft {N : NN} {B : BB} {cam : Nat} {S : M2} (hW : WF N B) (hM : MS N B (S 5)) (h6 : S 6 0 = nI (N 0 0)) (h7 : S 7 0 = nI (N 7 0)) (hc : cam < 32) (h9 : S 9 0 = nI cam) : ∃ S', fX5_keepDraft S = some S' ∧ (∀ q, q ≠ 0 → q ≠ 2 → q ≠ 3 → q ≠ 4 → S' q = S q) ∧ S' 3 0 = nI (N 0 0) ∧ S' 4 0 = nI (N 7 0) ∧ S' 2 0 = nI 0 ∧ S' 2 1 = nI 0 ∧ MS (va_up N 4 (fun _ => cam)) B (S' 0) := by
  have w1 := hW.1
  obtain ⟨S1, a1, a2, a3⟩ := m_keep_L 62 0 400 S (by omega) (by omega)
  have z : ∀ x, x < 62 → S1 0 x = S 5 x := fun x hx => by rw [a3 x, if_pos (by omega)]
  obtain ⟨S2, b1, b2, b3, b4⟩ := m_cam44 (nb := N 0 0) hc w1.1 (N 0 0) 0 400 (va_up (va_up S1 3 (fun _ => S1 6 0)) 4 (fun _ => S1 7 0)) (by show S1 6 0 = _; rw [a2 6 (by omega)]; exact h6) (by show S1 9 0 = _; rw [a2 9 (by omega)]; exact h9) (by omega) (by omega)
  have b4' : ∀ x, x < 62 → (∀ b, b < N 0 0 → x ≠ 6 * b + 3) → S2 0 x = S 5 x := fun x hx hb => by
    rw [b4 x fun b _ h => hb b h]
    exact z x hx
  refine ⟨va_up (va_up S2 2 (upd (S2 2) 0 (nI 0))) 2 (upd (upd (S2 2) 0 (nI 0)) 1 (nI 0)), ?_, fun q q0 q2 q3 q4 => ?_, ?_, ?_, rfl, rfl, ?_⟩
  · unfold fX5_keepDraft
    refine (a1 _).trans ?_
    have e7 : va_up S1 3 (fun _ => S1 6 0) 7 0 = S1 7 0 := rfl
    simp only [lt, e7]
    refine (b1 _).trans ?_
    simp (disch := omega) only [lt, jn, q_lit, q_bnd, q_cl, q_le, q_lt, q_eq, pk_mul, nI_add, q_sub, q_div, q_pos, q_neg, q_T, q_F, q_max0, q_flg1, q_flg0, q_min, q_min2, q_bit, q_some, q_up]
  · rw [q_up, if_neg q2, q_up, if_neg q2, b2 q q0, q_up, if_neg q4, q_up, if_neg q3, a2 q q0]
  · show S2 3 0 = _
    rw [b2 3 (by omega)]
    show S1 6 0 = _
    rw [a2 6 (by omega)]
    exact h6
  · show S2 4 0 = _
    rw [b2 4 (by omega)]
    show S1 7 0 = _
    rw [a2 7 (by omega)]
    exact h7
  · show MS _ B (S2 0)
    obtain ⟨⟨g1, g2, g3, g4⟩, h2, h3, h4, h5⟩ := hM
    refine ⟨⟨?_, ?_, ?_, ?_⟩, fun b hb => ⟨?_, ?_, ?_, ?_⟩, fun m hm => ⟨?_, ?_, ?_, ?_⟩, fun i hi => ⟨?_, ?_⟩, fun k hk i b hb => ⟨?_, ?_⟩⟩
    · rw [b4' _ (by omega) (fun b hb => by omega)]; exact g1
    · rw [b4' _ (by omega) (fun b hb => by omega)]; exact g2
    · rw [b4' _ (by omega) (fun b hb => by omega)]; exact g3
    · rw [b4' _ (by omega) (fun b hb => by omega)]; exact g4
    · have hb' : b < N 0 0 := hb
      rw [b4' _ (by omega) (fun c hc => by omega)]; exact (h2 b hb').1
    · have hb' : b < N 0 0 := hb
      rw [b4' _ (by omega) (fun c hc => by omega)]; exact (h2 b hb').2.1
    · have hb' : b < N 0 0 := hb
      rw [b4' _ (by omega) (fun c hc => by omega)]; exact (h2 b hb').2.2.1
    · exact b3 b (by omega) hb
    · have hm' : m < N 7 0 := hm
      rw [b4' _ (by omega) (fun c hc => by omega)]; exact (h3 m hm').1
    · have hm' : m < N 7 0 := hm
      rw [b4' _ (by omega) (fun c hc => by omega)]; exact (h3 m hm').2.1
    · have hm' : m < N 7 0 := hm
      rw [b4' _ (by omega) (fun c hc => by omega)]; exact (h3 m hm').2.2.1
    · have hm' : m < N 7 0 := hm
      rw [b4' _ (by omega) (fun c hc => by omega)]; exact (h3 m hm').2.2.2
    · have hi' : i < N 15 0 := hi
      rw [b4' _ (by omega) (fun c hc => by omega)]; exact (h4 i hi').1
    · have hi' : i < N 15 0 := hi
      rw [b4' _ (by omega) (fun c hc => by omega)]; exact (h4 i hi').2
    · have hl := hW.2.2.2.2.lt hk (List.mem_of_getElem? hb)
      rw [b4' _ (by omega) (fun c hc => by omega)]; exact (h5 k hk i b hb).1
    · have hl := hW.2.2.2.2.lt hk (List.mem_of_getElem? hb)
      rw [b4' _ (by omega) (fun c hc => by omega)]; exact (h5 k hk i b hb).2
theorem HI.le {cam nb : Nat} {x : Int32} (h : HI cam x) (hn : nb ≤ 5) : (nI nb ≤ x) = ¬ cam < 2 ^ nb := by
  rcases h with ⟨rfl, rfl⟩ | ⟨g, g1, rfl, g2, g3⟩
  · have e : ¬ nI nb ≤ -nI 4 := by
      rcases (by omega : nb = 0 ∨ nb = 1 ∨ nb = 2 ∨ nb = 3 ∨ nb = 4 ∨ nb = 5) with rfl | rfl | rfl | rfl | rfl | rfl <;> decide
    have e2 : 0 < 2 ^ nb := Nat.two_pow_pos nb
    exact propext ⟨fun a => absurd a e, fun a => absurd e2 a⟩
  · rw [q_le (by omega)]
    have e3 : 2 ^ g ≤ cam := Nat.ge_two_pow_of_testBit g2
    refine propext ⟨fun a => ?_, fun a => ?_⟩
    · have : 2 ^ nb ≤ 2 ^ g := Nat.pow_le_pow_right (by decide) a
      omega
    · by_cases e : nb ≤ g
      · exact e
      · have : 2 ^ (g + 1) ≤ 2 ^ nb := Nat.pow_le_pow_right (by decide) (by omega)
        omega
theorem q_shr0 {cam nb : Nat} (hc : cam < 32) (hn : nb ≤ 5) : (nI cam >>> (nI nb &&& nI 31) = nI 0) = (cam < 2 ^ nb) := by
  rw [q_shr (by omega), q_eq (by have := Nat.div_le_self cam (2 ^ nb); omega)]
  refine propext ⟨fun a => ?_, fun a => Nat.div_eq_of_lt a⟩
  have e2 : 0 < 2 ^ nb := Nat.two_pow_pos nb
  exact (Nat.div_eq_zero_iff_lt e2).mp a
theorem R.mfc {X X' : M3} {S S' : M2} (h : R X S) (hX : ∀ k, k ≠ 1 → k ≠ 3 → X' k = X k) (hm : ∀ j, (j < 5 ∨ 18 < j) → S' j = S j) (hT : RT (X' 1) (S' 11) (S' 12 0) (S' 17 0)) : R X' S' := by
  have e0 := hm 0 (by omega)
  have e2 := hm 2 (by omega)
  have e3 := hm 3 (by omega)
  have e4 := hm 4 (by omega)
  have e20 := hm 20 (by omega)
  have e21 := hm 21 (by omega)
  have e22 := hm 22 (by omega)
  have e23 := hm 23 (by omega)
  have x0 := hX 0 (by decide) (by decide)
  have x2 := hX 2 (by decide) (by decide)
  have x4 := hX 4 (by decide) (by decide)
  have x5 := hX 5 (by decide) (by decide)
  have x6 := hX 6 (by decide) (by decide)
  have x7 := hX 7 (by decide) (by decide)
  have x8 := hX 8 (by decide) (by decide)
  have x9 := hX 9 (by decide) (by decide)
  obtain ⟨h1, h2, h3, h4⟩ := h
  refine ⟨?_, hT, ?_, ?_⟩
  · rw [e0, e2, e3, e4, x0, x2, x4, x5]
    exact h1
  · rw [e20, e21, e22, x6, x7, x8, x9]
    exact h3
  · rw [e23, x0]
    exact h4
/-- class and model at the text's end -/
theorem k_text {X : M3} {S : M2} (h : R X S) : ∃ a X' S', fX4_text X = some (a, X') ∧ fX5_text S = some (a, S') ∧ R X' S' := by
  obtain ⟨c, n, n1, n2, n3, n4⟩ := tb_of h.2.1
  obtain ⟨Sd0, i1, i2⟩ := t_empty (X 3)
  obtain ⟨D0, j1, j2, j3, j6, j7, j8, j9, j10, jz⟩ := m_first (va_up (va_up S 17 (fun _ => nI 0)) 13 (fun _ => nI 0))
  have hT : TB c n (va_up (va_up (va_up (va_up (X 1) 2 (fun _ => nI 0)) 5 (fun _ => nI 0)) 9 (fun _ => nI 0)) 10 (fun _ => nI 0)) D0 := by
    refine ⟨n1, n2, ?_, fun i hi => ?_⟩
    · rw [j2 12 (by omega)]
      exact n3
    · rw [j2 11 (by omega)]
      exact n4 i hi
  obtain ⟨T8, S6, b1, b2, b3, b4, b5⟩ := nx hT (p := 0) (by omega) rfl (by rw [j2 17 (by omega)]; rfl) rfl (by rw [j2 13 (by omega)]; rfl)
  have hm6 : MF S S6 := MF.trans (fun j hj => by rw [j2 j (by omega), q_up, if_neg (by omega), q_up, if_neg (by omega)]) b4.mf
  have hD : DX T8 Sd0 S6 := by
    refine ⟨N0, B0, 0, 0, 0, ?_⟩
    have q9 : T8 9 0 = nI 0 := by rw [b3 9 (by omega) (by omega) (by omega) (by omega) (by omega) (by omega)]; rfl
    have q10 : T8 10 0 = nI 0 := by rw [b3 10 (by omega) (by omega) (by omega) (by omega) (by omega) (by omega)]; rfl
    have fr : ∀ j, j < 13 → S6 j = D0 j := fun j hj => b4 j (by omega) (by omega) (by omega) (by omega) (by omega) (by omega)
    refine ⟨wf0, ⟨rfl, rfl, rfl⟩, i2, ?_, ⟨?_, ?_⟩, ⟨by omega, ?_, ?_⟩, ⟨by omega, by omega, q9, q10, ?_⟩, fun b _ hb => ?_⟩
    · rw [fr 5 (by omega)]; exact j3
    · rw [fr 6 (by omega)]; exact j6
    · rw [fr 7 (by omega)]; exact j7
    · rw [fr 9 (by omega)]; exact j9
    · rw [fr 10 (by omega)]; exact Or.inl ⟨rfl, j10⟩
    · rw [fr 8 (by omega)]; exact j8
    · rw [fr 5 (by omega)]; exact jz b hb
  have t80 : T8 0 = X 1 0 := b3 0 (by omega) (by omega) (by omega) (by omega) (by omega) (by omega)
  have t81 : T8 1 = X 1 1 := b3 1 (by omega) (by omega) (by omega) (by omega) (by omega) (by omega)
  obtain ⟨v', T', Sd', v'', S', l1, l2, l3, l4, l5, l6⟩ := lines 400 400 n 0 0 T8 Sd0 S6 (hT.mv t80 t81 b4.mf) b5 hD (by omega) (by omega) (by omega) (by omega)
  have hmS : MF S S' := hm6.trans l5
  have t'1 : T' 1 0 = nI n := by rw [l4, t81]; exact n2
  -- the class, to the line behind its loop
  have clx : ∀ Tf, (∀ kk : M2 → Option (Int32 × (M2 × M2)), (jn (α := Option (Int32 × (M2 × M2))) (β := M2) (fun j22 => if ((Sd' 4 0) >>> ((Sd' 0 0) &&& 31)) = 0 then j22 T' else (fX3_refuse (6 : Int32) (T' 1 0) T').bind fun q23 => lt (q23.2) fun T24 => j22 T24) kk) = kk Tf) → fX3_tellInto (X 1) (X 3) = some (nI v', (va_up Tf 1 (fun _ => nI 0), Sd')) := by
    intro Tf hTf
    unfold fX3_tellInto
    rw [i1, q_some]
    simp only [lt]
    have b1' : fX3_nextToken (va_up (va_up (va_up (va_up (X 1) 2 (fun _ => (0 : Int32))) 5 (fun _ => (0 : Int32))) 9 (fun _ => (0 : Int32))) 10 (fun _ => (0 : Int32))) = some T8 := b1
    rw [b1', q_some]
    refine (l1 _ _ _).trans ?_
    exact hTf _
  -- the model
  have mox : ∀ Sf, (∀ kk : M2 → Option (Int32 × M2), (jn (α := Option (Int32 × M2)) (β := M2) (fun j15 => if (S' 17 0) = 0 then jn (α := Option (Int32 × M2)) (β := Int32) (fun j16 => if (S' 6 0) ≤ (S' 10 0) then j16 (0 : Int32) else j16 (1 : Int32)) (fun p18 => (fX5_needs p18 (6 : Int32) S').bind fun q19 => lt (q19) fun S20 => j15 S20) else j15 S') kk) = kk Sf) → fX5_text S = if (Sf 17 0) ≤ 0 then (fX5_keepDraft (va_up Sf 12 (fun _ => nI 0))).bind fun q24 => some (v'', q24) else some (((-10 : Int32) - (Sf 18 0)), va_up Sf 12 (fun _ => nI 0)) := by
    intro Sf hSf
    unfold fX5_text
    have j1' : fX5_firstDraft (va_up (va_up S 17 (fun _ => (0 : Int32))) 13 (fun _ => (0 : Int32))) = some D0 := j1
    simp only [lt]
    rw [j1', q_some, b2, q_some]
    refine (l2 _).trans ?_
    exact hSf _
  have fail : ∀ (Tf Sf : M2) (e pl : Nat), BD e pl Tf Sf → (∀ j, (j < 5 ∨ 18 < j) → Sf j = S j) → fX3_tellInto (X 1) (X 3) = some (nI v', (va_up Tf 1 (fun _ => nI 0), Sd')) → (fX5_text S = if (Sf 17 0) ≤ 0 then (fX5_keepDraft (va_up Sf 12 (fun _ => nI 0))).bind fun q24 => some (v'', q24) else some (((-10 : Int32) - (Sf 18 0)), va_up Sf 12 (fun _ => nI 0))) → ∃ a X' S', fX4_text X = some (a, X') ∧ fX5_text S = some (a, S') ∧ R X' S' := by
    intro Tf Sf e pl bd hj cl mo
    obtain ⟨d1, d2, d3, d4, d5, d6⟩ := id bd
    have he : ¬ nI e = (0 : Int32) := by
      show ¬ nI e = nI 0
      rw [q_eq (by omega)]; omega
    have he0 : ¬ nI e ≤ (0 : Int32) := by
      show ¬ nI e ≤ nI 0
      rw [q_le (by omega)]; omega
    refine ⟨(-10 : Int32) - nI pl, va_up (va_up X 1 (va_up Tf 1 (fun _ => nI 0))) 3 Sd', va_up Sf 12 (fun _ => nI 0), ?_, ?_, h.mfc (fun k k1 k3 => by rw [q_up, if_neg k3, q_up, if_neg k1]) (fun j hj2 => by rw [q_up, if_neg (by omega)]; exact hj j hj2) ?_⟩
    · unfold fX4_text
      rw [cl, q_some]
      simp only [lt]
      have e2 : va_up (va_up X 1 (va_up Tf 1 (fun _ => nI 0))) 3 Sd' 1 2 0 = nI e := d1
      have e3 : va_up (va_up X 1 (va_up Tf 1 (fun _ => nI 0))) 3 Sd' 1 3 0 = nI pl := d5
      rw [e2, e3, if_neg he]
    · rw [mo, d2, d6, if_neg he0]
    · refine ⟨⟨0, by omega, rfl, rfl, fun i hi => absurd hi (Nat.not_lt_zero i)⟩, ?_⟩
      show Tf 2 0 = Sf 17 0
      rw [d1, d2]
  rcases l6 with ⟨e, pl, bd⟩ | ⟨k1, k2, k3, k4, hDX⟩
  · obtain ⟨d1, d2, d3, d4, d5, d6⟩ := id bd
    have hr := rf_bad d1 (by omega)
    have cl := clx T' fun kk => by
      by_cases ez : Sd' 4 0 >>> (Sd' 0 0 &&& nI 31) = nI 0
      · simp (disch := omega) only [lt, jn, q_lit, q_bnd, q_cl, q_le, q_lt, q_eq, pk_mul, nI_add, q_sub, q_div, q_pos, q_neg, q_T, q_F, q_max0, q_flg1, q_flg0, q_min, q_min2, q_bit, q_some, ez]
      · simp (disch := omega) only [lt, jn, q_lit, q_bnd, q_cl, q_le, q_lt, q_eq, pk_mul, nI_add, q_sub, q_div, q_pos, q_neg, q_T, q_F, q_max0, q_flg1, q_flg0, q_min, q_min2, q_bit, q_some, ez, hr]
    have mo := mox S' fun kk => by
      simp (disch := omega) only [lt, jn, q_lit, q_bnd, q_cl, q_le, q_lt, q_eq, pk_mul, nI_add, q_sub, q_div, q_pos, q_neg, q_T, q_F, q_max0, q_flg1, q_flg0, q_min, q_min2, q_bit, q_some, d2]
    exact fail T' S' e pl bd (fun j hj => hmS j (by omega)) cl mo
  · obtain ⟨N, B, cam, mo, ra, hW, ⟨z4, z14, z15⟩, hC, hM, ⟨h6, h7⟩, ⟨hc, h9, h10⟩, -, -⟩ := hDX
    have w1 := hW.1
    have c0 : Sd' 0 0 = nI (N 0 0) := hC.1.1
    have c4 : Sd' 4 0 = nI cam := hC.1.2.1
    by_cases e : cam < 2 ^ N 0 0
    · have ez : nI cam >>> (nI (N 0 0) &&& nI 31) = nI 0 := by rw [q_shr0 hc w1.1]; exact e
      have e10 : ¬ nI (N 0 0) ≤ S' 10 0 := by rw [h10.le w1.1]; exact fun g => g e
      have cl := clx T' fun kk => by
        simp (disch := omega) only [lt, jn, q_lit, q_bnd, q_cl, q_le, q_lt, q_eq, pk_mul, nI_add, q_sub, q_div, q_pos, q_neg, q_T, q_F, q_max0, q_flg1, q_flg0, q_min, q_min2, q_bit, q_some, c0, c4, ez]
      have mo := mox S' fun kk => by
        simp (disch := omega) only [lt, jn, q_lit, q_bnd, q_cl, q_le, q_lt, q_eq, pk_mul, nI_add, q_sub, q_div, q_pos, q_neg, q_T, q_F, q_max0, q_flg1, q_flg0, q_min, q_min2, q_bit, q_some, k3, h6, e10, nd_ok]
      have hW' := hW.cam e
      obtain ⟨Q, q1, q2⟩ := t_copy (X 2) hC hW'
      obtain ⟨S3, s1, s2, s3, s4, s5, s6, s7⟩ := m_keepDraft (S := va_up S' 12 (fun _ => nI 0)) hW hM h6 h7 hc h9
      have hj : ∀ j, (j < 5 ∨ 18 < j) → S' j = S j := fun j hj => hmS j (by omega)
      have sj : ∀ j, j ≠ 0 → j ≠ 2 → j ≠ 3 → j ≠ 4 → j ≠ 12 → S3 j = S' j := fun j j0 j2 j3 j4 j12 => by rw [s2 j j0 j2 j3 j4, q_up, if_neg j12]
      refine ⟨nI v', va_up (va_up (va_up (va_up X 1 (va_up T' 1 (fun _ => nI 0))) 3 Sd') 2 Q) 0 (va_up (X 0) 6 (fun _ => nI 0)), S3, ?_, ?_, ⟨va_up N 4 (fun _ => cam), B, ⟨hW', by show N 14 0 ≤ 999; omega, q2, s7, s3, s4⟩, 0, by omega, rfl, fun k hk => ⟨?_, fun hb => ?_⟩⟩, ⟨⟨0, by omega, rfl, ?_, fun i hi => absurd hi (Nat.not_lt_zero i)⟩, ?_⟩, ?_, ?_⟩
      · unfold fX4_text
        rw [cl, q_some]
        simp only [lt]
        have e2 : va_up (va_up X 1 (va_up T' 1 (fun _ => nI 0))) 3 Sd' 1 2 0 = (0 : Int32) := k2
        rw [if_pos e2]
        have q1' : fX1_copyFrom (va_up (va_up X 1 (va_up T' 1 (fun _ => nI 0))) 3 Sd' 2) (va_up (va_up X 1 (va_up T' 1 (fun _ => nI 0))) 3 Sd' 3) = some Q := q1
        rw [q1', q_some]
        rfl
      · have e3 : S' 17 0 ≤ (0 : Int32) := by rw [k3]; exact Int32.le_refl _
        rw [mo, if_pos e3, s1, q_some, k1]
      · rw [Nat.zero_testBit]
        rcases (by omega : k = 0 ∨ k = 1) with rfl | rfl
        · exact s5
        · exact s6
      · rw [Nat.zero_testBit] at hb
        exact absurd hb (by decide)
      · rw [s2 12 (by omega) (by omega) (by omega) (by omega)]
        rfl
      · show T' 2 0 = S3 17 0
        rw [sj 17 (by omega) (by omega) (by omega) (by omega) (by omega), k2, k3]
      · rw [sj 20 (by omega) (by omega) (by omega) (by omega) (by omega), sj 21 (by omega) (by omega) (by omega) (by omega) (by omega), sj 22 (by omega) (by omega) (by omega) (by omega) (by omega), hj 20 (by omega), hj 21 (by omega), hj 22 (by omega)]
        exact h.2.2.1
      · rw [sj 23 (by omega) (by omega) (by omega) (by omega) (by omega), hj 23 (by omega)]
        exact h.2.2.2
    · have ez : ¬ nI cam >>> (nI (N 0 0) &&& nI 31) = nI 0 := by rw [q_shr0 hc w1.1]; exact e
      have e10 : nI (N 0 0) ≤ S' 10 0 := by rw [h10.le w1.1]; exact e
      have cl := clx (va_up (va_up T' 2 (fun _ => nI 6)) 3 (fun _ => T' 1 0)) fun kk => by
        simp (disch := omega) only [lt, jn, q_lit, q_bnd, q_cl, q_le, q_lt, q_eq, pk_mul, nI_add, q_sub, q_div, q_pos, q_neg, q_T, q_F, q_max0, q_flg1, q_flg0, q_min, q_min2, q_bit, q_some, c0, c4, ez, rf_new k2]
      have mo := mox (va_up (va_up S' 17 (fun _ => nI 6)) 18 (fun _ => S' 14 0)) fun kk => by
        simp (disch := omega) only [lt, jn, q_lit, q_bnd, q_cl, q_le, q_lt, q_eq, pk_mul, nI_add, q_sub, q_div, q_pos, q_neg, q_T, q_F, q_max0, q_flg1, q_flg0, q_min, q_min2, q_bit, q_some, k3, h6, e10, nd_new k3]
      exact fail _ _ 6 n ⟨rfl, rfl, by omega, by omega, t'1, k4⟩ (fun j hj => by rw [q_up, if_neg (by omega), q_up, if_neg (by omega)]; exact hmS j (by omega)) cl mo
end
section
/-! rows of the model: the orders of the bolts -/
def ups {α : Type} (g : Nat → List α) : Nat → Nat → List α
  | 0, _ => []
  | d + 1, v => g v ++ ups g d (v + 1)
theorem ups_mem {α : Type} {g : Nat → List α} {x : α} : ∀ {d v : Nat}, x ∈ ups g d v ↔ ∃ w, v ≤ w ∧ w < v + d ∧ x ∈ g w
  | 0, v => by
    refine ⟨fun h => absurd h (by rw [ups]; exact List.not_mem_nil), fun ⟨w, h1, h2, _⟩ => by omega⟩
  | d + 1, v => by
    rw [ups, List.mem_append, ups_mem]
    constructor
    · rintro (h | ⟨w, h1, h2, h3⟩)
      · exact ⟨v, by omega, by omega, h⟩
      · exact ⟨w, by omega, by omega, h3⟩
    · rintro ⟨w, h1, h2, h3⟩
      by_cases e : w = v
      · exact Or.inl (e ▸ h3)
      · exact Or.inr ⟨w, by omega, by omega, h3⟩
def rowf (n : Nat) : Nat → Nat → List Nat → List Nat
  | 0, _, acc => acc
  | j + 1, v, acc => rowf n j (v / n) (v % n :: acc)
def rmask (n : Nat) : Nat → Nat → Nat → Nat
  | 0, _, m => m
  | j + 1, v, m => rmask n j (v / n) (m ||| 2 ^ (v % n))
def dgs (n v : Nat) : List Nat := rowf n n v []
def isR (n v : Nat) : Bool := decide (rmask n n v 0 = 2 ^ n - 1)
def chk (n : Nat) (l : List Nat) : Bool := (List.range n).all (fun x => decide (l.count x = 1)) && l.all (fun x => decide (x < n))
theorem isR_chk : ∀ n, n < 6 → (List.range (n ^ n)).all (fun v => isR n v == chk n (dgs n v)) = true := by decide +kernel
theorem isR_eq {n v : Nat} (hn : n ≤ 5) (hv : v < n ^ n) : isR n v = chk n (dgs n v) := by
  have := isR_chk n (by omega)
  rw [List.all_eq_true] at this
  exact eq_of_beq (this v (List.mem_range.mpr hv))
theorem chk_perm {n : Nat} {l : List Nat} : chk n l = true ↔ l.Perm (List.range n) := by
  unfold chk
  rw [Bool.and_eq_true, List.all_eq_true, List.all_eq_true, List.perm_iff_count]
  constructor
  · rintro ⟨h1, h2⟩ a
    rw [List.count_range]
    by_cases e : a < n
    · rw [if_pos e]
      exact of_decide_eq_true (h1 a (List.mem_range.mpr e))
    · rw [if_neg e]
      exact List.count_eq_zero.mpr fun h => e (of_decide_eq_true (h2 a h))
  · intro h
    refine ⟨fun x hx => ?_, fun x hx => ?_⟩
    · have e := List.mem_range.mp hx
      have := h x
      rw [List.count_range, if_pos e] at this
      exact decide_eq_true this
    · have h1 := List.count_pos_iff.mpr hx
      have := h x
      rw [List.count_range] at this
      apply decide_eq_true
      by_cases e : x < n
      · exact e
      · rw [if_neg e] at this
        omega
theorem rowf_len (n : Nat) : ∀ (j v : Nat) (acc : List Nat), (rowf n j v acc).length = j + acc.length
  | 0, v, acc => by rw [rowf, Nat.zero_add]
  | j + 1, v, acc => by rw [rowf, rowf_len n j, List.length_cons]; omega
/-- the number of a row, its bolts from the last -/
def nmr (n : Nat) : List Nat → Nat
  | [] => 0
  | d :: r => n * nmr n r + d
theorem nmr_row {n : Nat} : ∀ (r acc : List Nat), (∀ d, d ∈ r → d < n) → rowf n r.length (nmr n r) acc = r.reverse ++ acc
  | [], acc, _ => rfl
  | d :: r, acc, h => by
    have hd := h d List.mem_cons_self
    have e1 : (n * nmr n r + d) / n = nmr n r := by
      rw [Nat.mul_add_div (by omega), Nat.div_eq_of_lt hd, Nat.add_zero]
    have e2 : (n * nmr n r + d) % n = d := by
      rw [Nat.mul_add_mod, Nat.mod_eq_of_lt hd]
    rw [List.length_cons, rowf, nmr, e1, e2, nmr_row r (d :: acc) fun x hx => h x (List.mem_cons_of_mem _ hx), List.reverse_cons, List.append_assoc]
    rfl
theorem nmr_lt {n : Nat} : ∀ (r : List Nat), (∀ d, d ∈ r → d < n) → nmr n r < n ^ r.length
  | [], _ => by rw [nmr, List.length_nil, Nat.pow_zero]; omega
  | d :: r, h => by
    have hd := h d List.mem_cons_self
    have ih := nmr_lt r fun x hx => h x (List.mem_cons_of_mem _ hx)
    rw [nmr, List.length_cons, Nat.pow_succ]
    calc n * nmr n r + d < n * nmr n r + n := by omega
      _ = n * (nmr n r + 1) := by rw [Nat.mul_add, Nat.mul_one]
      _ ≤ n * n ^ r.length := Nat.mul_le_mul_left n ih
      _ = n ^ r.length * n := Nat.mul_comm _ _
/-- every order of the bolts is a row -/
theorem row_ex {n : Nat} {l : List Nat} (h : l.Perm (List.range n)) : ∃ v, v < n ^ n ∧ dgs n v = l := by
  have hl : l.length = n := by rw [h.length_eq, List.length_range]
  have hm : ∀ d, d ∈ l.reverse → d < n := fun d hd => List.mem_range.mp (h.mem_iff.mp (List.mem_reverse.mp hd))
  have h1 := nmr_row l.reverse [] hm
  have h2 := nmr_lt l.reverse hm
  rw [List.length_reverse, hl] at h1 h2
  rw [List.reverse_reverse, List.append_nil] at h1
  exact ⟨_, h2, h1⟩
theorem row_pow {n : Nat} (hn : n ≤ 5) : n ^ n ≤ 3125 := by
  rcases (by omega : n = 0 ∨ n = 1 ∨ n = 2 ∨ n = 3 ∨ n = 4 ∨ n = 5) with rfl | rfl | rfl | rfl | rfl | rfl <;> decide
theorem m_rows_L {S : M2} {n : Nat} (h3 : S 3 0 = nI n) (hn : n ≤ 5) (kk : Int32 → Option Int32) : ∀ d t f : Nat, t + d = n → d < f → fX5_rows_L4 S kk f (nI (n ^ t)) (nI t) = kk (nI (n ^ n))
  | 0, t, f + 1, ht, hf => by
    have e : t = n := by omega
    subst e
    simp (disch := omega) only [fX5_rows_L4, lt, jn, q_lit, q_bnd, q_cl, q_le, q_lt, q_eq, pk_mul, nI_add, q_sub, q_div, q_pos, q_neg, q_T, q_F, q_max0, q_flg1, q_flg0, q_min, q_min2, q_bit, q_some, h3]
  | d + 1, t, f + 1, ht, hf => by
    have ih := m_rows_L h3 hn kk d (t + 1) f (by omega) (by omega)
    rw [Nat.pow_succ] at ih
    simp (disch := omega) only [fX5_rows_L4, lt, jn, q_lit, q_bnd, q_cl, q_le, q_lt, q_eq, pk_mul, nI_add, q_sub, q_div, q_pos, q_neg, q_T, q_F, q_max0, q_flg1, q_flg0, q_min, q_min2, q_bit, q_some, h3]
    exact ih
theorem m_rows {S : M2} {n : Nat} (h3 : S 3 0 = nI n) (hn : n ≤ 5) : fX5_rows S = some (nI (n ^ n)) := by
  have := m_rows_L h3 hn (fun p6 => some p6) n 0 400 (by omega) (by omega)
  rw [Nat.pow_zero] at this
  exact this
theorem neg1 : nI 0 - nI 1 < nI 0 := by decide
theorem q_mod' {r n : Nat} (h : r < 2 ^ 31 ∧ 0 < n ∧ n < 2 ^ 31) : nI r - nI r / nI n * nI n = nI (r % n) := q_mod h
theorem m_row_L {n : Nat} (hn : n ≤ 5) : ∀ (j v m f : Nat) (acc : List Nat) (S : M2), S 3 0 = nI n → j ≤ n → v < 2 ^ 30 → j < f → (∀ i x, acc[i]? = some x → S 19 (j + i) = nI x) → ∃ S', (∀ kk : (Int32 × M2) → Option (Int32 × M2), fX5_isRow_L12 kk f (nI v) (nI m) (nI j - nI 1) S = kk (nI (rmask n j v m), S')) ∧ (∀ q, q ≠ 19 → S' q = S q) ∧ ∀ i x, (rowf n j v acc)[i]? = some x → S' 19 i = nI x
  | 0, v, m, f + 1, acc, S, h3, hj, hv, hf, ha => by
    refine ⟨S, fun kk => ?_, fun _ _ => rfl, fun i x hx => ?_⟩
    · have := neg1
      simp (disch := omega) only [fX5_isRow_L12, lt, jn, q_lit, q_bnd, q_cl, q_le, q_lt, q_eq, pk_mul, nI_add, q_sub, q_div, q_pos, q_neg, q_T, q_F, q_max0, q_flg1, q_flg0, q_min, q_min2, q_bit, q_some, this]
      rfl
    · have := ha i x hx
      rw [Nat.zero_add] at this
      exact this
  | j + 1, v, m, f + 1, acc, S, h3, hj, hv, hf, ha => by
    have hvn : v / n < 2 ^ 30 := Nat.lt_of_le_of_lt (Nat.div_le_self _ _) hv
    have hmod : v % n < n := Nat.mod_lt _ (by omega)
    obtain ⟨S', a1, a2, a3⟩ := m_row_L hn j (v / n) (m ||| 2 ^ (v % n)) f (v % n :: acc) (va_up S 19 (upd (S 19) j (nI (v % n)))) h3 (by omega) hvn (by omega) (fun i x hx => by
      show upd (S 19) j (nI (v % n)) (j + i) = _
      rw [q_ud]
      cases i with
      | zero =>
        rw [List.getElem?_cons_zero, Option.some.injEq] at hx
        rw [if_pos (by omega), hx]
      | succ i =>
        rw [List.getElem?_cons_succ] at hx
        rw [if_neg (by omega), ← ha i x hx]
        congr 1
        omega)
    refine ⟨S', fun kk => ?_, fun q hq => ?_, a3⟩
    · rw [rmask, ← a1 kk]
      have e1 : nI (j + 1) - nI 1 = nI j := q_sub (by omega)
      have e2 : nI j + (-nI 1) = nI j - nI 1 := by rw [Int32.sub_eq_add_neg]
      have e3 : nI v - nI v / nI n * nI n = nI (v % n) := q_mod (by omega)
      rw [q_div (by omega)] at e3
      have e4 : va_up S 19 (upd (S 19) j (nI (v % n))) 3 0 = nI n := h3
      rw [e1]
      simp (disch := omega) only [fX5_isRow_L12, lt, q_lit, q_bnd, q_cl, q_lt, q_eq, q_neg, q_div, q_some, h3, e3, e4, e2, q_up, q_T, q_F, q_pos, q_ud, q_shl, q_or]
    · rw [a2 q hq, q_up, if_neg hq]
theorem m_isRow {S : M2} {n v : Nat} (h3 : S 3 0 = nI n) (hn : n ≤ 5) (hv : v < n ^ n) : ∃ S', fX5_isRow (nI v) S = some (nI (isR n v).toNat, S') ∧ (∀ q, q ≠ 19 → S' q = S q) ∧ ∀ i x, (dgs n v)[i]? = some x → S' 19 i = nI x := by
  have hp := row_pow hn
  obtain ⟨S', a1, a2, a3⟩ := m_row_L hn n v 0 400 [] S h3 (Nat.le_refl _) (by omega) (by omega) (fun i x hx => by rw [List.getElem?_nil] at hx; exact absurd hx (fun h => nomatch h))
  refine ⟨S', ?_, a2, a3⟩
  unfold fX5_isRow
  simp only [lt, q_lit, h3]
  refine (a1 _).trans ?_
  have h3' : S' 3 0 = nI n := by rw [a2 3 (by omega)]; exact h3
  have h2 : 0 < 2 ^ n := Nat.two_pow_pos n
  have hp2 : 2 ^ n ≤ 2 ^ 5 := Nat.pow_le_pow_right (by decide) hn
  have hb : rmask n n v 0 < 2 ^ 5 := by
    have : ∀ (j v m : Nat), m < 2 ^ 5 → (j = 0 ∨ 0 < n) → rmask n j v m < 2 ^ 5 := by
      intro j
      induction j with
      | zero => intro v m h _; exact h
      | succ j ih =>
        intro v m h hz
        have hz' : 0 < n := by omega
        rw [rmask]
        exact ih _ _ (Nat.or_lt_two_pow h (Nat.pow_lt_pow_right (by decide) (Nat.lt_of_lt_of_le (Nat.mod_lt _ hz') hn))) (Or.inr hz')
    exact this n v 0 (by decide) (by omega)
  unfold isR
  by_cases e : rmask n n v 0 = 2 ^ n - 1
  · rw [decide_eq_true e, e]
    simp (disch := omega) only [h3', q_shl, q_sub, q_pos, q_T, Bool.toNat_true]
  · rw [decide_eq_false e]
    simp (disch := omega) only [h3', q_shl, q_sub, q_eq, q_neg, q_F, Bool.toNat_false]
end
section
/-! the orders of a bale's bolts -/
theorem CS.cg {N : NN} {B B' : BB} {S : M2} (h : CS N B S) (e : ∀ k, k < 3 → B' k = B k) : CS N B' S := by
  obtain ⟨g1, g2, g3, g4, g5⟩ := h
  refine ⟨g1, g2, g3, g4, fun k hk => ?_⟩
  rw [e k hk]
  exact g5 k hk
theorem WB.cg {n : Nat} {B B' : BB} (h : WB n B) (e : ∀ k, k < 3 → B' k = B k) : WB n B' := by
  intro x
  rw [e 0 (by omega), e 1 (by omega), e 2 (by omega)]
  exact h x
theorem WF.cg {N : NN} {B B' : BB} (h : WF N B) (e : ∀ k, k < 3 → B' k = B k) : WF N B' := h.bb (h.2.2.2.2.cg e)
theorem WB.perm' {n : Nat} {B : BB} (h : WB n B) {k : Nat} {l : List Nat} (hl : l.Perm (B k)) : WB n (va_up B k l) := by
  intro x
  have e : ∀ k', (va_up B k l k').count x = (B k').count x := by
    intro k'
    rw [q_up]
    by_cases e : k' = k
    · rw [if_pos e, e]
      exact hl.count_eq x
    · rw [if_neg e]
  rw [e, e, e]
  exact h x
theorem sw_cm (b c x : Nat) : sw c b x = sw b c x := by
  unfold sw
  by_cases h1 : x = b
  · by_cases h2 : x = c
    · rw [if_pos h2, if_pos h1]
      omega
    · rw [if_neg h2, if_pos h1, if_pos h1]
  · by_cases h2 : x = c
    · rw [if_pos h2, if_neg h1, if_pos h2]
    · rw [if_neg h2, if_neg h1, if_neg h1, if_neg h2]
theorem nd_ix {l : List Nat} (hn : l.Nodup) {i j x : Nat} (h1 : l[i]? = some x) (h2 : l[j]? = some x) : i = j := (List.getElem?_inj (l_lt h1) hn).mp (h1.trans h2.symm)
theorem map_sw {l : List Nat} (hn : l.Nodup) {b c : Nat} (hb : b ∈ l) (hc : c ∈ l) : (l.map (sw b c)).Perm l := by
  rw [List.perm_iff_count]
  intro x
  rw [sw_count, hn.count, hn.count]
  unfold sw
  by_cases h1 : x = b
  · rw [if_pos h1, h1, if_pos hc, if_pos hb]
  · rw [if_neg h1]
    by_cases h2 : x = c
    · rw [if_pos h2, h2, if_pos hc, if_pos hb]
    · rw [if_neg h2]
theorem map_at {l : List Nat} (hn : l.Nodup) {i v j b c : Nat} (hb : l[i]? = some b) (hc : l[v]? = some c) (hi : j ≠ i) (hv : j ≠ v) : (l.map (sw b c))[j]? = l[j]? := by
  rw [List.getElem?_map]
  cases h : l[j]? with
  | none => rfl
  | some y =>
    have n1 : y ≠ b := fun e => hi (nd_ix hn h (by rw [e]; exact hb))
    have n2 : y ≠ c := fun e => hv (nd_ix hn h (by rw [e]; exact hc))
    rw [Option.map_some, sw_id n1 n2]
def po : Nat → Nat → List Nat → List (List Nat)
  | 0, _, _ => []
  | f + 1, i, l => if i < l.length then ups (fun v => po f (i + 1) (l.map (sw (l.getD i 0) (l.getD v 0)))) (l.length - i) i else [l]
theorem po_mem {q : List Nat} : ∀ {f i : Nat} {l : List Nat}, l.Nodup → i ≤ l.length → l.length < i + f → (q ∈ po f i l ↔ q.Perm l ∧ ∀ j, j < i → q[j]? = l[j]?)
  | 0, i, l, hn, hi, hf => absurd hf (by omega)
  | f + 1, i, l, hn, hi, hf => by
    rw [po]
    by_cases e : i < l.length
    · rw [if_pos e, ups_mem]
      have hb : l[i]? = some (l.getD i 0) := by rw [List.getD_eq_getElem?_getD, List.getElem?_eq_getElem e]; rfl
      have step : ∀ v, i ≤ v → v < l.length → (q ∈ po f (i + 1) (l.map (sw (l.getD i 0) (l.getD v 0))) ↔ q.Perm l ∧ (∀ j, j < i → q[j]? = l[j]?) ∧ q[i]? = l[v]?) := by
        intro v hv hvl
        have hc : l[v]? = some (l.getD v 0) := by rw [List.getD_eq_getElem?_getD, List.getElem?_eq_getElem hvl]; rfl
        have hp := map_sw hn (List.mem_of_getElem? hb) (List.mem_of_getElem? hc)
        rw [po_mem (hp.symm.nodup hn) (by rw [List.length_map]; omega) (by rw [List.length_map]; omega)]
        have h0 : (l.map (sw (l.getD i 0) (l.getD v 0)))[i]? = l[v]? := by
          rw [List.getElem?_map, hb, hc, Option.map_some]
          unfold sw
          rw [if_pos rfl]
        have hj : ∀ j, j < i → (l.map (sw (l.getD i 0) (l.getD v 0)))[j]? = l[j]? := fun j h => map_at hn hb hc (by omega) (by omega)
        constructor
        · rintro ⟨h1, h2⟩
          refine ⟨h1.trans hp, fun j h => ?_, ?_⟩
          · rw [h2 j (by omega), hj j h]
          · rw [h2 i (by omega), h0]
        · rintro ⟨h1, h2, h3⟩
          refine ⟨h1.trans hp.symm, fun j h => ?_⟩
          by_cases e2 : j = i
          · rw [e2, h0, h3]
          · rw [hj j (by omega), h2 j (by omega)]
      constructor
      · rintro ⟨v, h1, h2, h3⟩
        have := (step v h1 (by omega)).mp h3
        exact ⟨this.1, this.2.1⟩
      · rintro ⟨h1, h2⟩
        have hql : i < q.length := by rw [h1.length_eq]; exact e
        have hqi : q[i]? = some q[i] := List.getElem?_eq_getElem hql
        have hm : q[i] ∈ l := h1.mem_iff.mp (List.getElem_mem hql)
        obtain ⟨v, hv⟩ := List.mem_iff_getElem?.mp hm
        have hvl := l_lt hv
        have hiv : i ≤ v := by
          by_cases e3 : i ≤ v
          · exact e3
          · have := h2 v (by omega)
            rw [hv] at this
            exact absurd (nd_ix (h1.symm.nodup hn) this hqi) (by omega)
        exact ⟨v, hiv, by omega, (step v hiv hvl).mpr ⟨h1, h2, by rw [hqi, hv]⟩⟩
    · rw [if_neg e, List.mem_singleton]
      constructor
      · intro h
        subst h
        exact ⟨List.Perm.refl _, fun _ _ => rfl⟩
      · rintro ⟨h1, h2⟩
        apply List.ext_getElem?
        intro j
        by_cases e2 : j < i
        · exact h2 j e2
        · rw [List.getElem?_eq_none (by rw [h1.length_eq]; omega), List.getElem?_eq_none (by omega)]
/-- what is found of one order -/
def stp (N : NN) (B : BB) (k m : Nat) : List Nat → Nat
  | [] => m
  | t :: l => if spSeen (spNight N (va_up B k (t :: l)) 15) 0 (N 15 0) 0 = true then m ||| 2 ^ t else m
theorem stp_bit {N : NN} {B : BB} {k m t : Nat} {q : List Nat} : (stp N B k m q).testBit t = true ↔ m.testBit t = true ∨ ∃ l, q = t :: l ∧ spSeen (spNight N (va_up B k q) 15) 0 (N 15 0) 0 = true := by
  cases q with
  | nil => exact ⟨Or.inl, fun h => h.elim id fun ⟨l, h, _⟩ => nomatch h⟩
  | cons a l =>
    rw [stp]
    by_cases e : spSeen (spNight N (va_up B k (a :: l)) 15) 0 (N 15 0) 0 = true
    · rw [if_pos e, Nat.testBit_or, Bool.or_eq_true, Nat.testBit_two_pow, decide_eq_true_eq]
      constructor
      · rintro (h | h)
        · exact Or.inl h
        · exact Or.inr ⟨l, by rw [h], e⟩
      · rintro (h | ⟨l', h, _⟩)
        · exact Or.inl h
        · exact Or.inr (List.cons.inj h).1
    · rw [if_neg e]
      exact ⟨Or.inl, fun h => h.elim id fun ⟨_, _, h⟩ => absurd h e⟩
theorem fold_bit {N : NN} {B : BB} {k t : Nat} : ∀ (L : List (List Nat)) (m : Nat), (L.foldl (stp N B k) m).testBit t = true ↔ m.testBit t = true ∨ ∃ q, q ∈ L ∧ ∃ l, q = t :: l ∧ spSeen (spNight N (va_up B k q) 15) 0 (N 15 0) 0 = true
  | [], m => ⟨Or.inl, fun h => h.elim id fun ⟨q, h, _⟩ => absurd h List.not_mem_nil⟩
  | p :: L, m => by
    rw [List.foldl_cons, fold_bit L, stp_bit]
    constructor
    · rintro ((h | h) | ⟨q, h1, h2⟩)
      · exact Or.inl h
      · exact Or.inr ⟨p, List.mem_cons_self, h⟩
      · exact Or.inr ⟨q, List.mem_cons_of_mem _ h1, h2⟩
    · rintro (h | ⟨q, h1, h2⟩)
      · exact Or.inl (Or.inl h)
      · rcases List.mem_cons.mp h1 with e | e
        · subst e
          exact Or.inl (Or.inr h2)
        · exact Or.inr ⟨q, e, h2⟩
theorem fold_cg {N : NN} {B : BB} {k : Nat} {L L' : List (List Nat)} (h : ∀ q, q ∈ L ↔ q ∈ L') : L.foldl (stp N B k) 0 = L'.foldl (stp N B k) 0 := by
  apply Nat.eq_of_testBit_eq
  intro t
  rw [Bool.eq_iff_iff, fold_bit, fold_bit]
  constructor
  · rintro (h1 | ⟨q, h1, h2⟩)
    · exact Or.inl h1
    · exact Or.inr ⟨q, (h q).mp h1, h2⟩
  · rintro (h1 | ⟨q, h1, h2⟩)
    · exact Or.inl h1
    · exact Or.inr ⟨q, (h q).mpr h1, h2⟩
/-- the class: two bolts of a bale change places -/
theorem t_exch {M : NN} {B : BB} {S : M2} {k i v b c : Nat} {l : List Nat} (hS : CS M (va_up B k l) S) (hW : WF M (va_up B k l)) (hk : k < 3) (hb : l[i]? = some b) (hc : l[v]? = some c) : ∃ S', fX0_exchange (nI (k * 5 + i)) (nI (k * 5 + v)) S = some S' ∧ CS M (va_up B k (l.map (sw b c))) S' ∧ WF M (va_up B k (l.map (sw b c))) := by
  have w1 := hW.1
  have hkl : va_up B k l k = l := by rw [q_up, if_pos rfl]
  have hb' : (va_up B k l k)[i]? = some b := by rw [hkl]; exact hb
  have hc' : (va_up B k l k)[v]? = some c := by rw [hkl]; exact hc
  have x1 := (hS.2.2.2.2 k hk).2 i b hb'
  have x2 := (hS.2.2.2.2 k hk).2 v c hc'
  have a1 := l_lt hb'
  have a2 := l_lt hc'
  have a3 := hW.2.2.2.2.le hk
  have hcg : ∀ k', k' < 3 → va_up B k (l.map (sw b c)) k' = spSwap (va_up B k l) b c k' := by
    intro k' hk'
    unfold spSwap
    rw [q_up, q_up]
    by_cases e : k' = k
    · rw [if_pos e, if_pos e]
    · rw [if_neg e, if_neg e]
      have hm : ∀ x, x ∈ B k' → sw b c x = x := by
        intro x hx
        have hx' : x ∈ va_up B k l k' := by rw [q_up, if_neg e]; exact hx
        refine sw_id (fun q => ?_) (fun q => ?_)
        · exact e (hW.2.2.2.2.uq hk' hk hx' (by rw [q]; exact List.mem_of_getElem? hb'))
        · exact e (hW.2.2.2.2.uq hk' hk hx' (by rw [q]; exact List.mem_of_getElem? hc'))
      rw [List.map_congr_left hm, List.map_id'']
      exact fun _ => rfl
  have hbl := hW.2.2.2.2.lt hk (List.mem_of_getElem? hb')
  have hcl := hW.2.2.2.2.lt hk (List.mem_of_getElem? hc')
  refine ⟨va_up S 5 (upd (upd (S 5) (k * 5 + i) (nI c)) (k * 5 + v) (nI b)), ?_, (CS.swap hS hW hk hk hb' hc').cg hcg, (hW.bb (hW.2.2.2.2.swap hbl hcl)).cg hcg⟩
  simp (disch := omega) only [fX0_exchange, lt, jn, q_lit, q_bnd, q_cl, q_le, q_lt, q_eq, pk_mul, nI_add, q_sub, q_div, q_pos, q_neg, q_T, q_F, q_max0, q_flg1, q_flg0, q_min, q_min2, q_bit, q_some, x1, x2, q_up, up_up]
/-- the class goes through all orders of what lies from i on -/
theorem t_ord_L {N : NN} {B : BB} {k f i : Nat} {X2 T0 S0 : M2} (hk : k < 3) {l : List Nat} (hl : l.Perm (B k)) (hn : l.Nodup) (hl5 : l.length ≤ 5) (hi : i < l.length) (IH : ∀ (l' : List Nat) (T S : M2) (m : Nat), l'.Perm (B k) → l'.length = l.length → (∃ h, CS (va_up N 3 h) (va_up B k l') S ∧ WF (va_up N 3 h) (va_up B k l')) → T 5 0 = nI m → ∃ T' S', fX0_orderFrom f (nI (k * 5 + (i + 1))) (nI (k * 5 + l.length)) T S X2 = some (T', S') ∧ (∃ h, CS (va_up N 3 h) (va_up B k l') S' ∧ WF (va_up N 3 h) (va_up B k l')) ∧ T' 5 0 = nI ((po f (i + 1) l').foldl (stp N B k) m)) : ∀ (d v g : Nat) (T S : M2) (m : Nat), v + d = l.length → d < g → (∃ h, CS (va_up N 3 h) (va_up B k l) S ∧ WF (va_up N 3 h) (va_up B k l)) → T 5 0 = nI m → ∃ T' S', (∀ kk : (M2 × M2) → Option (M2 × M2), fX0_orderFrom_L73 T0 S0 (nI (k * 5 + i)) (nI (k * 5 + l.length)) (fun i2 i3 T S => fX0_orderFrom f i2 i3 T S X2) kk g (nI (k * 5 + v)) T S = kk (T', S')) ∧ (∃ h, CS (va_up N 3 h) (va_up B k l) S' ∧ WF (va_up N 3 h) (va_up B k l)) ∧ T' 5 0 = nI ((ups (fun v => po f (i + 1) (l.map (sw (l.getD i 0) (l.getD v 0)))) d v).foldl (stp N B k) m)
  | 0, v, g + 1, T, S, m, hv, hg, hS, hT => by
    refine ⟨T, S, fun kk => ?_, hS, hT⟩
    simp (disch := omega) only [fX0_orderFrom_L73, lt, jn, q_lit, q_bnd, q_cl, q_le, q_lt, q_eq, pk_mul, nI_add, q_sub, q_div, q_pos, q_neg, q_T, q_F, q_max0, q_flg1, q_flg0, q_min, q_min2, q_bit, q_some]
  | d + 1, v, g + 1, T, S, m, hv, hg, ⟨h0, hS, hW⟩, hT => by
    have hvl : v < l.length := by omega
    have hb : l[i]? = some (l.getD i 0) := by rw [List.getD_eq_getElem?_getD, List.getElem?_eq_getElem hi]; rfl
    have hc : l[v]? = some (l.getD v 0) := by rw [List.getD_eq_getElem?_getD, List.getElem?_eq_getElem hvl]; rfl
    obtain ⟨S1, a1, a2, a3⟩ := t_exch hS hW hk hb hc
    have hp := map_sw hn (List.mem_of_getElem? hb) (List.mem_of_getElem? hc)
    obtain ⟨T2, S2, b1, ⟨h1, b2, b3⟩, b4⟩ := IH (l.map (sw (l.getD i 0) (l.getD v 0))) T S1 m (hp.trans hl) (by rw [List.length_map]) ⟨h0, a2, a3⟩ hT
    have hb' : (l.map (sw (l.getD i 0) (l.getD v 0)))[i]? = some (l.getD v 0) := by
      rw [List.getElem?_map, hb, Option.map_some]
      unfold sw
      rw [if_pos rfl]
    have hc' : (l.map (sw (l.getD i 0) (l.getD v 0)))[v]? = some (l.getD i 0) := by
      rw [List.getElem?_map, hc, Option.map_some, ← sw_cm]
      unfold sw
      rw [if_pos rfl]
    obtain ⟨S3, c1, c2, c3⟩ := t_exch b2 b3 hk hb' hc'
    have hback : (l.map (sw (l.getD i 0) (l.getD v 0))).map (sw (l.getD v 0) (l.getD i 0)) = l := by
      rw [List.map_map]
      have : ∀ x, x ∈ l → (sw (l.getD v 0) (l.getD i 0) ∘ sw (l.getD i 0) (l.getD v 0)) x = x := fun x _ => by
        show sw (l.getD v 0) (l.getD i 0) (sw (l.getD i 0) (l.getD v 0) x) = x
        rw [sw_cm, sw_sw]
      rw [List.map_congr_left this, List.map_id'']
      exact fun _ => rfl
    rw [hback] at c2 c3
    obtain ⟨T', S', e1, e2, e3⟩ := t_ord_L (T0 := T0) (S0 := S0) hk hl hn hl5 hi IH d (v + 1) g T2 S3 _ (by omega) (by omega) ⟨h1, c2, c3⟩ b4
    refine ⟨T', S', fun kk => ?_, e2, ?_⟩
    · rw [← e1 kk]
      have n1 : nI (k * 5 + i) + nI 1 = nI (k * 5 + (i + 1)) := nI_add _ _
      have n2 : nI (k * 5 + v) + nI 1 = nI (k * 5 + (v + 1)) := nI_add _ _
      simp (disch := omega) only [fX0_orderFrom_L73, lt, q_lit, q_le, q_neg, q_some, a1, n1, b1, c1, n2]
    · rw [ups, List.foldl_append]
      exact e3
theorem t_ord {N : NN} {B : BB} {k : Nat} {X2 : M2} (hX : CS N B X2) (hW : WF N B) (hk : k < 3) : ∀ (f i : Nat) (l : List Nat) (T S : M2) (m : Nat), l.Perm (B k) → 0 < l.length → i ≤ l.length → l.length < i + f → (∃ h, CS (va_up N 3 h) (va_up B k l) S ∧ WF (va_up N 3 h) (va_up B k l)) → T 5 0 = nI m → ∃ T' S', fX0_orderFrom f (nI (k * 5 + i)) (nI (k * 5 + l.length)) T S X2 = some (T', S') ∧ (∃ h, CS (va_up N 3 h) (va_up B k l) S' ∧ WF (va_up N 3 h) (va_up B k l)) ∧ T' 5 0 = nI ((po f i l).foldl (stp N B k) m)
  | 0, i, l, T, S, m, hl, h0, hi, hf, hS, hT => absurd hf (by omega)
  | f + 1, i, l, T, S, m, hl, h0, hi, hf, hS, hT => by
    have hn : l.Nodup := hl.symm.nodup (hW.2.2.2.2.nodup hk)
    have hl5 : l.length ≤ 5 := by
      rw [hl.length_eq]
      have := hW.2.2.2.2.le hk
      have := hW.1.1
      omega
    rw [po]
    by_cases e : i < l.length
    · rw [if_pos e]
      obtain ⟨T', S', a1, a2, a3⟩ := t_ord_L (T0 := T) (S0 := S) (X2 := X2) (f := f) hk hl hn hl5 e (fun l' T S m hl' hll hS hT => by
        have := t_ord hX hW hk f (i + 1) l' T S m hl' (by omega) (by omega) (by omega) hS hT
        rw [hll] at this
        exact this) (l.length - i) i 400 T S m (by omega) (by omega) hS hT
      refine ⟨T', S', ?_, a2, a3⟩
      have := a1 (fun p13 => some (p13.1, p13.2))
      simp (disch := omega) only [fX0_orderFrom, q_lt, q_pos]
      exact this
    · rw [if_neg e]
      obtain ⟨h, hS, hWh⟩ := hS
      have hW' : WF N (va_up B k l) := hW.bb (hW.2.2.2.2.perm' hl)
      obtain ⟨S1, a1, a2⟩ := t_copyHoles hS (fun b hb => (hX.2.1 b hb).2.2) hW.1.1
      obtain ⟨S2, b1, b2, b3⟩ := t_loose (fl := 15) (by omega) a2 hW'
      have hs := t_seenN b2 b3
      obtain ⟨t, l', rfl⟩ : ∃ t l', l = t :: l' := by
        cases l with
        | nil => exact absurd h0 (Nat.lt_irrefl 0)
        | cons t l' => exact ⟨t, l', rfl⟩
      have ht := (b2.2.2.2.2 k hk).2 0 t (by rw [q_up, if_pos rfl]; rfl)
      rw [Nat.add_zero] at ht
      have htn := hW'.2.2.2.2.lt hk (b := t) (by rw [q_up, if_pos rfl]; exact List.mem_cons_self)
      have hw1 := hW.1.1
      rw [List.foldl_cons, List.foldl_nil, stp]
      have i1 : nI (k * 5 + (t :: l').length) - nI 1 = nI (k * 5 + (t :: l').length - 1) := q_sub (by omega)
      have i2 : nI (k * 5 + (t :: l').length - 1) - nI (k * 5 + (t :: l').length - 1) / nI 5 * nI 5 = nI ((k * 5 + (t :: l').length - 1) % 5) := q_mod (by omega)
      rw [q_div (by omega)] at i2
      have i3 : nI (k * 5 + (t :: l').length - 1) - nI ((k * 5 + (t :: l').length - 1) % 5) = nI (k * 5) := by
        rw [q_sub (by omega)]
        congr 1
        omega
      by_cases es : spSeen (spNight N (va_up B k (t :: l')) 15) 0 (N 15 0) 0 = true
      · rw [if_pos es]
        rw [es] at hs
        refine ⟨va_up T 5 (fun _ => nI (m ||| 2 ^ t)), S2, ?_, ⟨_, b2, b3⟩, rfl⟩
        simp (disch := omega) only [fX0_orderFrom, lt, q_lit, q_lt, q_neg, q_some, a1, b1, i1, q_div, i2, i3, q_bnd, q_cl, q_eq, ht, hs, Bool.toNat_true, hT, q_shl, q_or]
      · rw [if_neg es]
        have es' : spSeen (spNight N (va_up B k (t :: l')) 15) 0 (N 15 0) 0 = false := by simpa using es
        rw [es'] at hs
        refine ⟨va_up T 5 (fun _ => nI (m ||| 0)), S2, ?_, ⟨_, b2, b3⟩, by rw [Nat.or_zero]; rfl⟩
        simp (disch := omega) only [fX0_orderFrom, lt, q_lit, q_lt, q_neg, q_pos, q_T, q_some, a1, b1, i1, q_div, i2, i3, q_bnd, q_cl, q_eq, ht, hs, Bool.toNat_false, hT, q_or]
end
section
/-! lain -/
def ME2 (S0 S : M2) : Prop := ∀ k, k ≠ 1 → k ≠ 19 → S k = S0 k
theorem R.me2 {X : M3} {S S' : M2} (h : R X S) (e : ME2 S S') : R X S' := by
  have e0 := e 0 (by decide) (by decide)
  have e2 := e 2 (by decide) (by decide)
  have e3 := e 3 (by decide) (by decide)
  have e4 := e 4 (by decide) (by decide)
  have e11 := e 11 (by decide) (by decide)
  have e12 := e 12 (by decide) (by decide)
  have e17 := e 17 (by decide) (by decide)
  have e20 := e 20 (by decide) (by decide)
  have e21 := e 21 (by decide) (by decide)
  have e22 := e 22 (by decide) (by decide)
  have e23 := e 23 (by decide) (by decide)
  unfold R at h ⊢
  rw [e0, e2, e3, e4, e11, e12, e17, e20, e21, e22, e23]
  exact h
theorem l_snoc {α : Type} (pre rest : List α) (x : α) : pre ++ (x :: rest) = (pre ++ [x]) ++ rest := by rw [List.append_assoc]; rfl
/-- the model lays a bale by a row -/
theorem m_lb_L {n k : Nat} {S1 : M2} (hn : n ≤ 5) (hk : k < 3) (K : Nat → Bool) (hK : ∀ c, c < n → (S1 1 (6 * c + 4) = nI k) = (K c = true)) : ∀ (rest pre : List Nat) (f : Nat) (S : M2), (pre ++ rest).length = n → (∀ x, x ∈ pre ++ rest → x < n) → (pre ++ rest).Nodup → S 3 0 = nI n → (∀ i x, (pre ++ rest)[i]? = some x → S 19 i = nI x) → (∀ x, (∀ c, c ∈ pre.filter K → x ≠ 6 * c + 5) → S 1 x = S1 1 x) → (∀ i b, (pre.filter K)[i]? = some b → S 1 (6 * b + 5) = nI i) → rest.length < f → ∃ S', (∀ kk : M2 → Option M2, fX5_liesBy_L4 (nI k) kk f (nI (pre.filter K).length) (nI pre.length) S = kk S') ∧ (∀ q, q ≠ 1 → S' q = S q) ∧ (∀ x, (∀ c, c ∈ (pre ++ rest).filter K → x ≠ 6 * c + 5) → S' 1 x = S1 1 x) ∧ ∀ i b, ((pre ++ rest).filter K)[i]? = some b → S' 1 (6 * b + 5) = nI i
  | [], pre, f + 1, S, hlen, hlt, hnd, h3, h19, h1, h5, hf => by
    rw [List.append_nil] at hlen
    refine ⟨S, fun kk => ?_, fun _ _ => rfl, ?_, ?_⟩
    · simp (disch := omega) only [fX5_liesBy_L4, lt, jn, q_lit, q_bnd, q_cl, q_le, q_lt, q_eq, pk_mul, nI_add, q_sub, q_div, q_pos, q_neg, q_T, q_F, q_max0, q_flg1, q_flg0, q_min, q_min2, q_bit, q_some, h3]
    · rw [List.append_nil]; exact h1
    · rw [List.append_nil]; exact h5
  | x :: rest, pre, f + 1, S, hlen, hlt, hnd, h3, h19, h1, h5, hf => by
    have hlen' : pre.length + (rest.length + 1) = n := by rw [← hlen, List.length_append, List.length_cons]
    have hfl : (pre.filter K).length ≤ pre.length := List.length_filter_le _ _
    have hx : x < n := hlt x (List.mem_append_right _ List.mem_cons_self)
    have hxp : x ∉ pre := fun h => by
      have := (List.nodup_append.mp hnd).2.2 x h x List.mem_cons_self
      exact this rfl
    have h19x : S 19 pre.length = nI x := h19 pre.length x (by rw [List.getElem?_append_right (Nat.le_refl _), Nat.sub_self]; rfl)
    have hx4 : S 1 (6 * x + 4) = S1 1 (6 * x + 4) := h1 _ fun c _ => by omega
    have hKx := hK x hx
    rw [l_snoc] at hlen hlt hnd h19 ⊢
    by_cases e : K x = true
    · have hf2 : (pre ++ [x]).filter K = pre.filter K ++ [x] := by rw [List.filter_append, List.filter_cons, if_pos e, List.filter_nil]
      obtain ⟨S', a1, a2, a3, a4⟩ := m_lb_L hn hk K hK rest (pre ++ [x]) f (va_up S 1 (upd (S 1) (6 * x + 5) (nI (pre.filter K).length))) hlen hlt hnd h3 h19 (fun y hy => by
        show upd (S 1) (6 * x + 5) (nI (pre.filter K).length) y = _
        rw [q_ud, if_neg (hy x (by rw [hf2]; exact List.mem_append_right _ (List.mem_singleton.mpr rfl)))]
        exact h1 y fun c hc => hy c (by rw [hf2]; exact List.mem_append_left _ hc)) (fun i b hb => by
        show upd (S 1) (6 * x + 5) (nI (pre.filter K).length) (6 * b + 5) = _
        rw [hf2, List.getElem?_append] at hb
        rw [q_ud]
        by_cases e2 : i < (pre.filter K).length
        · rw [if_pos e2] at hb
          have hbp : b ∈ pre := (List.mem_filter.mp (List.mem_of_getElem? hb)).1
          have : b ≠ x := fun q => hxp (q ▸ hbp)
          rw [if_neg (by omega)]
          exact h5 i b hb
        · rw [if_neg e2] at hb
          have e3 : i = (pre.filter K).length := by
            have := l_lt hb
            rw [List.length_singleton] at this
            omega
          subst e3
          rw [Nat.sub_self, List.getElem?_cons_zero, Option.some.injEq] at hb
          rw [if_pos (by omega)]) (by rw [List.length_cons] at hf; omega)
      refine ⟨S', fun kk => ?_, fun q hq => by rw [a2 q hq, q_up, if_neg hq], a3, a4⟩
      have a1 := a1 kk
      rw [hf2, List.length_append, List.length_append, List.length_singleton] at a1
      have hKx' : S1 1 (6 * x + 4) = nI k := by rw [hKx]; exact e
      rw [← a1]
      simp (disch := omega) only [fX5_liesBy_L4, fX5_of, fX5_becomesOf, lt, jn, q_lit, q_bnd, q_cl, q_le, q_lt, q_eq, pk_mul, nI_add, q_sub, q_div, q_pos, q_neg, q_T, q_F, q_max0, q_flg1, q_flg0, q_min, q_min2, q_bit, q_some, h3, h19x, hx4, hKx']
    · have hf2 : (pre ++ [x]).filter K = pre.filter K := by rw [List.filter_append, List.filter_cons, if_neg e, List.filter_nil, List.append_nil]
      obtain ⟨S', a1, a2, a3, a4⟩ := m_lb_L hn hk K hK rest (pre ++ [x]) f S hlen hlt hnd h3 h19 (by rw [hf2]; exact h1) (by rw [hf2]; exact h5) (by rw [List.length_cons] at hf; omega)
      refine ⟨S', fun kk => ?_, a2, a3, a4⟩
      have a1 := a1 kk
      rw [hf2, List.length_append, List.length_singleton] at a1
      have hKx' : ¬ S1 1 (6 * x + 4) = nI k := by rw [hKx]; exact e
      rw [← a1]
      simp (disch := omega) only [fX5_liesBy_L4, fX5_of, fX5_becomesOf, lt, jn, q_lit, q_bnd, q_cl, q_le, q_lt, q_eq, pk_mul, nI_add, q_sub, q_div, q_pos, q_neg, q_T, q_F, q_max0, q_flg1, q_flg0, q_min, q_min2, q_bit, q_some, h3, h19x, hx4, hKx']
theorem filt_perm {n : Nat} {B : BB} (h : WB n B) {k : Nat} (hk : k < 3) {row : List Nat} (hr : row.Perm (List.range n)) : (row.filter (fun x => decide (x ∈ B k))).Perm (B k) := by
  rw [List.perm_iff_count]
  intro a
  have hnr : row.Nodup := hr.symm.nodup List.nodup_range
  have hnf : (row.filter (fun x => decide (x ∈ B k))).Nodup := hnr.filter _
  rw [hnf.count, (h.nodup hk).count]
  have : (a ∈ row.filter (fun x => decide (x ∈ B k))) = (a ∈ B k) := by
    rw [List.mem_filter, decide_eq_true_eq]
    refine propext ⟨fun q => q.2, fun q => ⟨hr.mem_iff.mpr (List.mem_range.mpr (h.lt hk q)), q⟩⟩
  simp only [this]
theorem filt_ex {n : Nat} {B : BB} (h : WB n B) {k : Nat} (hk : k < 3) {q : List Nat} (hq : q.Perm (B k)) : ∃ row : List Nat, row.Perm (List.range n) ∧ row.filter (fun x => decide (x ∈ B k)) = q := by
  refine ⟨q ++ (List.range n).filter (fun x => !decide (x ∈ B k)), ?_, ?_⟩
  · have h1 : q.Perm ((List.range n).filter (fun x => decide (x ∈ B k))) := hq.trans (filt_perm h hk (List.Perm.refl _)).symm
    exact (h1.append_right _).trans (List.filter_append_perm (fun x => decide (x ∈ B k)) (List.range n))
  · rw [List.filter_append, List.filter_filter]
    have e1 : q.filter (fun x => decide (x ∈ B k)) = q := List.filter_eq_self.mpr fun a ha => decide_eq_true (hq.mem_iff.mp ha)
    have e2 : (List.range n).filter (fun a => decide (a ∈ B k) && !decide (a ∈ B k)) = [] := List.filter_eq_nil_iff.mpr fun a _ => by cases decide (a ∈ B k) <;> decide
    rw [e1, e2, List.append_nil]
theorem m_liesBy {N : NN} {B : BB} {S0 S : M2} (hS : MA N B S0 S) (hW : WF N B) {k : Nat} (hk : k < 3) {row : List Nat} (hr : row.Perm (List.range (N 0 0))) (h19 : ∀ i x, row[i]? = some x → S 19 i = nI x) : ∃ S', fX5_liesBy (nI k) S = some S' ∧ MA N (va_up B k (row.filter (fun x => decide (x ∈ B k)))) S0 S' ∧ WF N (va_up B k (row.filter (fun x => decide (x ∈ B k)))) := by
  have hlen : row.length = N 0 0 := by rw [hr.length_eq, List.length_range]
  have hnd : row.Nodup := hr.symm.nodup List.nodup_range
  obtain ⟨S', a1, a2, a3, a4⟩ := m_lb_L (S1 := S) hW.1.1 hk (fun x => decide (x ∈ B k)) (fun c hc => hS.bale hW hk hc) row [] 400 S hlen (fun x hx => List.mem_range.mp (hr.mem_iff.mp hx)) hnd hS.n h19 (fun _ _ => rfl) (fun i b hb => absurd hb (by rw [List.filter_nil, List.getElem?_nil]; exact fun h => nomatch h)) (by have := hW.1.1; omega)
  have hp := filt_perm hW.2.2.2.2 hk hr
  refine ⟨S', ?_, ⟨fun q hq => by rw [a2 q hq]; exact hS.1 q hq, hS.2.1, hS.2.2.1, ?_⟩, hW.bb (hW.2.2.2.2.perm' hp)⟩
  · unfold fX5_liesBy
    exact a1 _
  · obtain ⟨⟨m1, m2, m3, m4⟩, h2, h3, h4, h5⟩ := hS.2.2.2
    have w1 := hW.1
    have o : ∀ x, (∀ c, c < N 0 0 → x ≠ 6 * c + 5) → S' 1 x = S 1 x := fun x hx => a3 x fun c hc => hx c (hW.2.2.2.2.lt hk (hp.mem_iff.mp hc))
    refine ⟨⟨?_, ?_, ?_, ?_⟩, fun b hb => ⟨?_, ?_, ?_, ?_⟩, fun m hm => ⟨?_, ?_, ?_, ?_⟩, fun i hi => ⟨?_, ?_⟩, fun k' hk' i b hb => ?_⟩
    · rw [o _ fun c hc => by omega]; exact m1
    · rw [o _ fun c hc => by omega]; exact m2
    · rw [o _ fun c hc => by omega]; exact m3
    · rw [o _ fun c hc => by omega]; exact m4
    · rw [o _ fun c hc => by omega]; exact (h2 b hb).1
    · rw [o _ fun c hc => by omega]; exact (h2 b hb).2.1
    · rw [o _ fun c hc => by omega]; exact (h2 b hb).2.2.1
    · rw [o _ fun c hc => by omega]; exact (h2 b hb).2.2.2
    · rw [o _ fun c hc => by omega]; exact (h3 m hm).1
    · rw [o _ fun c hc => by omega]; exact (h3 m hm).2.1
    · rw [o _ fun c hc => by omega]; exact (h3 m hm).2.2.1
    · rw [o _ fun c hc => by omega]; exact (h3 m hm).2.2.2
    · rw [o _ fun c hc => by omega]; exact (h4 i hi).1
    · rw [o _ fun c hc => by omega]; exact (h4 i hi).2
    · rw [q_up] at hb
      by_cases e : k' = k
      · rw [if_pos e] at hb
        rw [o _ fun c hc => by omega, e]
        have hbk : b ∈ B k := hp.mem_iff.mp (List.mem_of_getElem? hb)
        obtain ⟨j, hj⟩ := List.mem_iff_getElem?.mp hbk
        exact ⟨(h5 k hk j b hj).1, a4 i b hb⟩
      · rw [if_neg e] at hb
        have hbk : b ∈ B k' := List.mem_of_getElem? hb
        rw [o _ fun c hc => by omega, a3 _ fun c hc => ?_]
        · exact h5 k' hk' i b hb
        · have : c ∈ B k := hp.mem_iff.mp hc
          intro q
          have e2 : b = c := by omega
          exact e (hW.2.2.2.2.uq hk' hk hbk (e2 ▸ this))
def lml (N : NN) (B : BB) (k v : Nat) : List (List Nat) := if isR (N 0 0) v = true then [(dgs (N 0 0) v).filter (fun x => decide (x ∈ B k))] else []
theorem m_lain_L {N : NN} {B : BB} {k : Nat} {Sx : M2} (hk : k < 3) (hW : WF N B) (hM : MS N B (Sx 0)) (h3 : Sx 3 0 = nI (N 0 0)) (h4 : Sx 4 0 = nI (N 7 0)) : ∀ (d v f m : Nat) (S : M2), v + d = N 0 0 ^ N 0 0 → d < f → ME2 Sx S → ∃ S', (∀ kk : (Int32 × M2) → Option (Int32 × M2), fX5_lain_L13 (nI k) kk f (nI m) (nI v) S = kk (nI ((ups (lml N B k) d v).foldl (stp N B k) m), S')) ∧ ME2 Sx S'
  | 0, v, f + 1, m, S, hv, hf, hE => by
    have hp := row_pow hW.1.1
    have h3' : S 3 0 = nI (N 0 0) := by rw [hE 3 (by omega) (by omega)]; exact h3
    have hr := m_rows h3' hW.1.1
    refine ⟨S, fun kk => ?_, hE⟩
    simp (disch := omega) only [fX5_lain_L13, lt, jn, q_lit, q_bnd, q_cl, q_le, q_lt, q_eq, pk_mul, nI_add, q_sub, q_div, q_pos, q_neg, q_T, q_F, q_max0, q_flg1, q_flg0, q_min, q_min2, q_bit, q_some, hr]
    rfl
  | d + 1, v, f + 1, m, S, hv, hf, hE => by
    have hp := row_pow hW.1.1
    have h3' : S 3 0 = nI (N 0 0) := by rw [hE 3 (by omega) (by omega)]; exact h3
    have h4' : S 4 0 = nI (N 7 0) := by rw [hE 4 (by omega) (by omega)]; exact h4
    have hM' : MS N B (S 0) := by rw [hE 0 (by omega) (by omega)]; exact hM
    have hr := m_rows h3' hW.1.1
    obtain ⟨S7, a1, a2, a3⟩ := m_isRow (v := v) h3' hW.1.1 (by omega)
    have hE7 : ME2 Sx S7 := fun q q1 q2 => by rw [a2 q q2]; exact hE q q1 q2
    by_cases e : isR (N 0 0) v = true
    · have hperm : (dgs (N 0 0) v).Perm (List.range (N 0 0)) := chk_perm.mp (by rw [← isR_eq hW.1.1 (by omega)]; exact e)
      obtain ⟨S10, b1, b2⟩ := m_starts (S0 := S7) (S := S7) (fun _ _ => rfl) (by rw [a2 3 (by omega)]; exact h3') (by rw [a2 4 (by omega)]; exact h4') (by rw [a2 0 (by omega)]; exact hM') hW
      obtain ⟨S12, c1, c2, c3⟩ := m_liesBy b2 hW hk hperm (fun i x hx => by rw [b2.1 19 (by omega)]; exact a3 i x hx)
      obtain ⟨S15, l1, l2, l3⟩ := m_nights (n := 1) (by omega) c2 c3
      have hsn : SN N S15 := by
        refine ⟨?_, fun i hi => ?_⟩
        · rw [l2.1 0 (by omega), a2 0 (by omega)]
          exact hM'.1.2.2.2
        · rw [l2.1 0 (by omega), a2 0 (by omega)]
          exact hM'.2.2.2.1 i hi
      have l2' : MA (spPass N (va_up B k ((dgs (N 0 0) v).filter (fun x => decide (x ∈ B k)))) 15) (va_up B k ((dgs (N 0 0) v).filter (fun x => decide (x ∈ B k)))) S7 S15 := l2
      have l3' : WF (spPass N (va_up B k ((dgs (N 0 0) v).filter (fun x => decide (x ∈ B k)))) 15) (va_up B k ((dgs (N 0 0) v).filter (fun x => decide (x ∈ B k)))) := l3
      have hs := m_seenN l2' l3' hsn (st := 0) (by omega)
      clear l2' l3'
      have hE15 : ME2 Sx S15 := fun q q1 q2 => by rw [l2.1 q q1]; exact hE7 q q1 q2
      have hml : lml N B k v = [(dgs (N 0 0) v).filter (fun x => decide (x ∈ B k))] := if_pos e
      rw [ups, List.foldl_append, hml, List.foldl_cons, List.foldl_nil]
      generalize hq : (dgs (N 0 0) v).filter (fun x => decide (x ∈ B k)) = q at c2 c3 l2 l3 hs
      rw [e] at a1
      cases q with
      | nil =>
        have hb := m_boltNo c2 c3 hk (i := 0) (by omega) (by rw [q_up, if_pos rfl]; rfl)
        obtain ⟨S', r1, r2⟩ := m_lain_L hk hW hM h3 h4 d (v + 1) f m S15 (by omega) (by omega) hE15
        refine ⟨S', fun kk => ?_, r2⟩
        rw [stp, ← r1 kk]
        have e0 : nI m ||| nI 0 = nI m := by rw [q_or, Nat.or_zero]
        have hb' : fX5_boltAt (nI k) (nI 0) S12 = some (-nI 4) := hb
        simp (disch := omega) only [fX5_lain_L13, lt, jn, q_lit, q_bnd, q_cl, q_le, q_lt, q_eq, pk_mul, nI_add, q_sub, q_div, q_pos, q_neg, q_T, q_F, q_max0, q_flg1, q_flg0, q_min, q_min2, q_bit, q_some, hr, a1, Bool.toNat_true, b1, c1, hb', l1, e0]
      | cons t l =>
        have hb := m_boltAt c2 c3 hk (i := 0) (b := t) (by rw [q_up, if_pos rfl]; rfl)
        have htn : t < N 0 0 := c3.2.2.2.2.lt hk (b := t) (by rw [q_up, if_pos rfl]; exact List.mem_cons_self)
        have hw1 := hW.1.1
        have ht4 := m4_ne t (by omega)
        by_cases es : spSeen (spNight N (va_up B k (t :: l)) 15) 0 (N 15 0) 0 = true
        · obtain ⟨S', r1, r2⟩ := m_lain_L hk hW hM h3 h4 d (v + 1) f (m ||| 2 ^ t) S15 (by omega) (by omega) hE15
          refine ⟨S', fun kk => ?_, r2⟩
          rw [es] at hs
          rw [stp, if_pos es, ← r1 kk]
          simp (disch := omega) only [fX5_lain_L13, lt, jn, q_F, q_lit, q_le, q_eq, q_neg, q_some, nI_add, hr, a1, Bool.toNat_true, b1, c1, hb, ht4, l1, hs, q_shl, q_or]
        · obtain ⟨S', r1, r2⟩ := m_lain_L hk hW hM h3 h4 d (v + 1) f m S15 (by omega) (by omega) hE15
          refine ⟨S', fun kk => ?_, r2⟩
          have es' : spSeen (spNight N (va_up B k (t :: l)) 15) 0 (N 15 0) 0 = false := by simpa using es
          rw [es'] at hs
          rw [stp, if_neg es, ← r1 kk]
          have e0 : nI m ||| nI 0 = nI m := by rw [q_or, Nat.or_zero]
          simp (disch := omega) only [fX5_lain_L13, lt, jn, q_F, q_lit, q_le, q_eq, q_neg, q_some, nI_add, hr, a1, Bool.toNat_true, Bool.toNat_false, b1, c1, hb, ht4, l1, hs, q_T, e0]
    · have e' : isR (N 0 0) v = false := by simpa using e
      have hml : lml N B k v = [] := if_neg e
      obtain ⟨S', r1, r2⟩ := m_lain_L hk hW hM h3 h4 d (v + 1) f m S7 (by omega) (by omega) hE7
      refine ⟨S', fun kk => ?_, r2⟩
      rw [ups, hml, List.nil_append, ← r1 kk]
      rw [e'] at a1
      simp (disch := omega) only [fX5_lain_L13, lt, jn, q_lit, q_bnd, q_cl, q_le, q_lt, q_eq, pk_mul, nI_add, q_sub, q_div, q_pos, q_neg, q_T, q_F, q_max0, q_flg1, q_flg0, q_min, q_min2, q_bit, q_some, hr, a1, Bool.toNat_false]
theorem k_lain {X : M3} {S : M2} (h : R X S) (x : Int32) : ∃ a X' S', fX4_lain x X = some (a, X') ∧ fX5_lain x S = some (a, S') ∧ R X' S' := by
  obtain ⟨N, B, hW, hn, hC, hM, e3, e4, hN, hK⟩ := h.data
  have w1 := hW.1
  have hp := row_pow w1.1
  have eb : fX5_isBale x = fX4_isBale x := m_isBale x
  rcases t_isBale x with ⟨k, hk, rfl, h1⟩ | ⟨-, h1⟩
  · rw [h1] at eb
    obtain ⟨S', r1, r2⟩ := m_lain_L hk hW hM e3 e4 (N 0 0 ^ N 0 0) 0 4000 0 S (by omega) (by omega) (fun _ _ _ => rfl)
    obtain ⟨Q, c1, c2⟩ := t_copy (X 11) hC hW
    have h6 := (hC.2.2.2.2 k hk).1
    have hle := hW.2.2.2.2.le hk
    -- the two lists have the same orders
    have hmem : ∀ q, q ∈ po 7 0 (B k) ↔ q ∈ ups (lml N B k) (N 0 0 ^ N 0 0) 0 := by
      intro q
      rw [po_mem (hW.2.2.2.2.nodup hk) (Nat.zero_le _) (by omega), ups_mem]
      constructor
      · rintro ⟨g1, -⟩
        obtain ⟨row, g2, g3⟩ := filt_ex hW.2.2.2.2 hk g1
        obtain ⟨v, g4, g5⟩ := row_ex g2
        refine ⟨v, by omega, by omega, ?_⟩
        unfold lml
        rw [isR_eq w1.1 g4, g5, chk_perm.mpr g2, if_pos rfl, g3]
        exact List.mem_singleton.mpr rfl
      · rintro ⟨v, -, g2, g3⟩
        unfold lml at g3
        by_cases e : isR (N 0 0) v = true
        · rw [if_pos e] at g3
          rw [List.mem_singleton.mp g3]
          exact ⟨filt_perm hW.2.2.2.2 hk (chk_perm.mp (by rw [← isR_eq w1.1 (by omega)]; exact e)), fun j hj => absurd hj (Nat.not_lt_zero j)⟩
        · rw [if_neg e] at g3
          exact absurd g3 List.not_mem_nil
    have hfold := fold_cg (N := N) (B := B) (k := k) hmem
    have mo : fX5_lain (nI k) S = some (nI ((po 7 0 (B k)).foldl (stp N B k) 0), S') := by
      rw [hfold]
      have := r1 (fun p28 => some (p28.1, p28.2))
      simp (disch := omega) only [fX5_lain, lt, q_lit, q_some, eb, q_eq, q_neg]
      exact this
    have cl : ∃ T' Q', fX0_findTops (nI k) (X 10) (X 11) (X 2) = some (nI ((po 7 0 (B k)).foldl (stp N B k) 0), (T', Q')) := by
      by_cases e0 : (B k).length = 0
      · have hnil : B k = [] := List.length_eq_zero_iff.mp e0
        refine ⟨va_up (X 10) 5 (fun _ => nI 0), Q, ?_⟩
        have hz : ((po 7 0 (B k)).foldl (stp N B k) 0) = 0 := by
          rw [hnil]
          rfl
        rw [hz]
        simp (disch := omega) only [fX0_findTops, lt, q_lit, q_some, q_bnd, q_cl, c1, h6, q_le, q_pos, q_up, q_T]
      · obtain ⟨T', Q', d1, -, d3⟩ := t_ord hC hW hk 7 0 (B k) (va_up (X 10) 5 (fun _ => nI 0)) Q 0 (List.Perm.refl _) (by omega) (by omega) (by omega) ⟨N 3, by rw [up_id, up_id]; exact ⟨c2, hW⟩⟩ rfl
        refine ⟨T', Q', ?_⟩
        rw [Nat.add_zero] at d1
        simp (disch := omega) only [fX0_findTops, lt, q_lit, q_some, q_bnd, q_cl, c1, h6, q_le, q_neg, pk_mul, nI_add, d1, d3]
    obtain ⟨T', Q', cl⟩ := cl
    refine ⟨_, va_up (va_up X 10 T') 11 Q', S', ?_, mo, (h.xe fun k a1 a2 a3 => by rw [q_up, if_neg a3, q_up, if_neg a2]).me2 r2⟩
    simp (disch := omega) only [fX4_lain, lt, q_lit, q_some, h1, q_eq, q_neg, cl]
  · rw [h1] at eb
    refine ⟨-1, X, S, ?_, ?_, h⟩
    · simp (disch := omega) only [fX4_lain, lt, jn, q_lit, q_bnd, q_cl, q_le, q_lt, q_eq, pk_mul, nI_add, q_sub, q_div, q_pos, q_neg, q_T, q_F, q_max0, q_flg1, q_flg0, q_min, q_min2, q_bit, q_some, h1]
    · simp (disch := omega) only [fX5_lain, lt, jn, q_lit, q_bnd, q_cl, q_le, q_lt, q_eq, pk_mul, nI_add, q_sub, q_div, q_pos, q_neg, q_T, q_F, q_max0, q_flg1, q_flg0, q_min, q_min2, q_bit, q_some, eb]
end
section
/-! best: the foldings, as codes of the bolts (10 * bale + layer) -/
theorem pig : ∀ {Q P : List Nat}, Q.Nodup → (∀ x, x ∈ Q → x ∈ P) → P.length ≤ Q.length → ∀ x, x ∈ P → x ∈ Q
  | [], P, _, _, hl, x, hx => by
    have : P = [] := List.length_eq_zero_iff.mp (by rw [List.length_nil] at hl; omega)
    rw [this] at hx
    exact hx
  | a :: Q, P, hq, hs, hl, x, hx => by
    have ha : a ∈ P := hs a List.mem_cons_self
    have hq' := List.nodup_cons.mp hq
    have hle : (P.erase a).length ≤ Q.length := by
      rw [List.length_erase_of_mem ha]
      rw [List.length_cons] at hl
      omega
    by_cases e : x = a
    · rw [e]
      exact List.mem_cons_self
    · refine List.mem_cons_of_mem _ (pig hq'.2 (fun y hy => ?_) hle x ((List.mem_erase_of_ne e).mpr hx))
      have hya : y ≠ a := fun q => hq'.1 (q ▸ hy)
      exact (List.mem_erase_of_ne hya).mpr (hs y (List.mem_cons_of_mem _ hy))
def spot (d : Nat) : Nat := d / 10 * 5 + d % 10
/-- the codes c tell the bales B of n bolts -/
def FD (n : Nat) (c : List Nat) (B : BB) : Prop := c.length = n ∧ WB n B ∧ n ≤ 5 ∧ ∀ k i b, k < 3 → i < 10 → ((B k)[i]? = some b ↔ b < n ∧ c.getD b 0 = 10 * k + i)
theorem FD.lt {n : Nat} {c : List Nat} {B : BB} (h : FD n c B) {k i b : Nat} (hk : k < 3) (hb : (B k)[i]? = some b) : i < 5 := by
  have h1 := l_lt hb
  have h2 := h.2.1.le hk
  have h3 := h.2.2.1
  omega
theorem FD.uq {n : Nat} {c : List Nat} {B B' : BB} (h : FD n c B) (h' : FD n c B') : ∀ k, k < 3 → B' k = B k := by
  intro k hk
  apply List.ext_getElem?
  intro i
  apply Option.ext
  intro b
  constructor
  · intro hb
    have hi := h'.lt hk hb
    exact (h.2.2.2 k i b hk (by omega)).mpr ((h'.2.2.2 k i b hk (by omega)).mp hb)
  · intro hb
    have hi := h.lt hk hb
    exact (h'.2.2.2 k i b hk (by omega)).mpr ((h.2.2.2 k i b hk (by omega)).mp hb)
theorem FD.at {n : Nat} {c : List Nat} {B : BB} (h : FD n c B) {b : Nat} (hb : b < n) : ∃ k i, k < 3 ∧ i < 5 ∧ (B k)[i]? = some b ∧ c.getD b 0 = 10 * k + i := by
  obtain ⟨k, i, hk, hi⟩ := h.2.1.ex hb
  have h5 := h.lt hk hi
  exact ⟨k, i, hk, h5, hi, ((h.2.2.2 k i b hk (by omega)).mp hi).2⟩
theorem getD_ext {c c' : List Nat} (hl : c.length = c'.length) (h : ∀ b, b < c.length → c.getD b 0 = c'.getD b 0) : c = c' := by
  apply List.ext_getElem hl
  intro i h1 h2
  have := h i h1
  rw [List.getD_eq_getElem?_getD, List.getD_eq_getElem?_getD, List.getElem?_eq_getElem h1, List.getElem?_eq_getElem h2] at this
  exact this
theorem FD.codes {n : Nat} {c c' : List Nat} {B B' : BB} (h : FD n c B) (h' : FD n c' B') (e : ∀ k, k < 3 → B' k = B k) : c = c' := by
  refine getD_ext (by rw [h.1, h'.1]) fun b hb => ?_
  rw [h.1] at hb
  obtain ⟨k, i, hk, hi, hx, hc⟩ := h.at hb
  rw [hc]
  rw [← e k hk] at hx
  exact ((h'.2.2.2 k i b hk (by omega)).mp hx).2.symm
/-- codes of a folding -/
theorem FD.mk {n : Nat} {B : BB} (h : WB n B) (hn : n ≤ 5) : ∃ c, FD n c B := by
  obtain ⟨K, Y, h1, h2⟩ := h.loc
  refine ⟨(List.range n).map (fun b => 10 * K b + Y b), by rw [List.length_map, List.length_range], h, hn, fun k i b hk hi => ?_⟩
  have hg : ∀ b, b < n → ((List.range n).map (fun b => 10 * K b + Y b)).getD b 0 = 10 * K b + Y b := fun b hb => by
    rw [List.getD_eq_getElem?_getD, List.getElem?_map, List.getElem?_range hb]
    rfl
  constructor
  · intro hb
    have hbn := h.lt hk (List.mem_of_getElem? hb)
    obtain ⟨a1, a2⟩ := h2 k i b hk hb
    exact ⟨hbn, by rw [hg b hbn, a1, a2]⟩
  · rintro ⟨hbn, hc⟩
    rw [hg b hbn] at hc
    obtain ⟨a1, a2⟩ := h1 b hbn
    have hy := l_lt a2
    have hle := h.le a1
    have e1 : K b = k := by omega
    have e2 : Y b = i := by omega
    rw [e1, e2] at a2
    exact a2
/-- the bales that codes tell -/
noncomputable def trc (n : Nat) (c : List Nat) : BB := @dite _ (∃ B, FD n c B) (Classical.propDecidable _) (fun h => h.choose) (fun _ _ => [])
theorem trc_fd {n : Nat} {c : List Nat} {B : BB} (h : FD n c B) : FD n c (trc n c) := by
  have hx : ∃ B, FD n c B := ⟨B, h⟩
  unfold trc
  rw [dif_pos hx]
  exact hx.choose_spec
/-- from the codes of distinct spots, none above its bale's height, heights together n at most -/
theorem FD.of {n : Nat} {c : List Nat} {h : Nat → Nat} (hn : n ≤ 5) (hl : c.length = n) (hnd : c.Nodup) (hv : ∀ b, b < n → c.getD b 0 / 10 < 3 ∧ c.getD b 0 % 10 < h (c.getD b 0 / 10)) (hs : h 0 + h 1 + h 2 ≤ n) : ∃ B, FD n c B ∧ ∀ k, k < 3 → (B k).length = h k := by
  have hmem : ∀ x, x ∈ c → ∃ b, b < n ∧ c.getD b 0 = x ∧ c[b]? = some x := by
    intro x hx
    obtain ⟨b, hb⟩ := List.mem_iff_getElem?.mp hx
    have := l_lt hb
    exact ⟨b, by omega, by rw [List.getD_eq_getElem?_getD, hb]; rfl, hb⟩
  have hget : ∀ b, b < n → c[b]? = some (c.getD b 0) := fun b hb => by
    rw [List.getD_eq_getElem?_getD, List.getElem?_eq_getElem (by omega)]
    rfl
  have hP : ∀ x, x ∈ (List.range (h 0) ++ (List.range (h 1)).map (fun l => 10 + l)) ++ (List.range (h 2)).map (fun l => 20 + l) → x ∈ c := by
    refine pig hnd (fun x hx => ?_) ?_
    · obtain ⟨b, hb, rfl, -⟩ := hmem x hx
      obtain ⟨v1, v2⟩ := hv b hb
      rw [List.mem_append, List.mem_append, List.mem_map, List.mem_map]
      rcases wb_cases v1 with e | e | e
      · rw [e] at v2
        exact Or.inl (Or.inl (List.mem_range.mpr (by omega)))
      · rw [e] at v2
        exact Or.inl (Or.inr ⟨_, List.mem_range.mpr v2, by omega⟩)
      · rw [e] at v2
        exact Or.inr ⟨_, List.mem_range.mpr v2, by omega⟩
    · rw [List.length_append, List.length_append, List.length_map, List.length_map, List.length_range, List.length_range, List.length_range, hl]
      exact hs
  have hfill : ∀ k l, k < 3 → l < h k → 10 * k + l ∈ c := by
    intro k l hk hlh
    refine hP _ ?_
    rw [List.mem_append, List.mem_append, List.mem_map, List.mem_map]
    rcases wb_cases hk with rfl | rfl | rfl
    · exact Or.inl (Or.inl (List.mem_range.mpr (by omega)))
    · exact Or.inl (Or.inr ⟨l, List.mem_range.mpr hlh, by omega⟩)
    · exact Or.inr ⟨l, List.mem_range.mpr hlh, by omega⟩
  have hle : ∀ k, k < 3 → h k ≤ 5 := fun k hk => by rcases wb_cases hk with rfl | rfl | rfl <;> omega
  have hkey : ∀ k i b, k < 3 → i < 10 → (((List.range (h k)).map (fun l => c.idxOf (10 * k + l)))[i]? = some b ↔ b < n ∧ c.getD b 0 = 10 * k + i) := by
    intro k i b hk hi
    rw [List.getElem?_map]
    constructor
    · intro hb
      by_cases e : i < h k
      · rw [List.getElem?_range e, Option.map_some, Option.some.injEq] at hb
        have hm := hfill k i hk e
        have hlt := List.idxOf_lt_length_of_mem hm
        have hgi := List.getElem_idxOf hlt
        subst hb
        refine ⟨by omega, ?_⟩
        rw [List.getD_eq_getElem?_getD, List.getElem?_eq_getElem hlt, hgi]
        rfl
      · rw [List.getElem?_eq_none (by rw [List.length_range]; omega), Option.map_none] at hb
        exact absurd hb (fun h => nomatch h)
    · rintro ⟨hb, hc⟩
      obtain ⟨v1, v2⟩ := hv b hb
      have e1 : c.getD b 0 / 10 = k := by omega
      have e2 : c.getD b 0 % 10 = i := by omega
      rw [e1, e2] at v2
      have hg := hget b hb
      rw [hc] at hg
      have hix : c.idxOf (10 * k + i) = b := by
        have hm := List.mem_of_getElem? hg
        have hlt := List.idxOf_lt_length_of_mem hm
        have hgi : c[c.idxOf (10 * k + i)]? = some (10 * k + i) := by
          rw [List.getElem?_eq_getElem hlt, List.getElem_idxOf hlt]
        exact nd_ix hnd hgi hg
      rw [List.getElem?_range v2, Option.map_some, hix]
  have hnb : ∀ k, k < 3 → ((List.range (h k)).map (fun l => c.idxOf (10 * k + l))).Nodup := by
    intro k hk
    refine List.pairwise_iff_getElem.mpr fun i j hi hj hij => ?_
    rw [List.length_map, List.length_range] at hi hj
    have h5 := hle k hk
    intro e
    have a1 := (hkey k i _ hk (by omega)).mp (List.getElem?_eq_getElem (by rw [List.length_map, List.length_range]; exact hi))
    have a2 := (hkey k j _ hk (by omega)).mp (List.getElem?_eq_getElem (by rw [List.length_map, List.length_range]; exact hj))
    rw [e] at a1
    omega
  have hcnt : ∀ k, k < 3 → ∀ x, ((List.range (h k)).map (fun l => c.idxOf (10 * k + l))).count x = if x < n ∧ c.getD x 0 / 10 = k then 1 else 0 := by
    intro k hk x
    rw [(hnb k hk).count]
    have : (x ∈ (List.range (h k)).map (fun l => c.idxOf (10 * k + l))) = (x < n ∧ c.getD x 0 / 10 = k) := by
      refine propext ⟨fun hx => ?_, fun ⟨hx, e⟩ => ?_⟩
      · obtain ⟨i, hi⟩ := List.mem_iff_getElem?.mp hx
        have hil := l_lt hi
        rw [List.length_map, List.length_range] at hil
        have h5 := hle k hk
        have := (hkey k i x hk (by omega)).mp hi
        omega
      · refine List.mem_of_getElem? ((hkey k (c.getD x 0 % 10) x hk (by omega)).mpr ⟨hx, by omega⟩)
    simp only [this]
  refine ⟨fun k => (List.range (h k)).map (fun l => c.idxOf (10 * k + l)), ⟨hl, fun x => ?_, hn, fun k i b hk hi => hkey k i b hk hi⟩, fun k _ => by rw [List.length_map, List.length_range]⟩
  rw [hcnt 0 (by omega), hcnt 1 (by omega), hcnt 2 (by omega)]
  by_cases e : x < n
  · rw [if_pos e]
    have v1 := (hv x e).1
    rcases wb_cases v1 with q | q | q
    · rw [if_pos ⟨e, q⟩, if_neg (by omega), if_neg (by omega)]
    · rw [if_neg (by omega), if_pos ⟨e, q⟩, if_neg (by omega)]
    · rw [if_neg (by omega), if_neg (by omega), if_pos ⟨e, q⟩]
  · rw [if_neg e, if_neg (by omega), if_neg (by omega), if_neg (by omega)]
/-- the number that orders foldings -/
def num (c : List Nat) : Nat := c.foldl (fun v d => 30 * v + d) 0
theorem num_snoc (c : List Nat) (d : Nat) : num (c ++ [d]) = 30 * num c + d := by
  unfold num
  rw [List.foldl_append]
  rfl
theorem num_app (c : List Nat) : ∀ r : List Nat, num (c ++ r) = num c * 30 ^ r.length + num r := by
  have key : ∀ (r : List Nat) (v : Nat), r.foldl (fun v d => 30 * v + d) v = v * 30 ^ r.length + r.foldl (fun v d => 30 * v + d) 0 := by
    intro r
    induction r with
    | nil => intro v; rw [List.length_nil, Nat.pow_zero, Nat.mul_one]; rfl
    | cons d r ih =>
      intro v
      rw [List.foldl_cons, List.foldl_cons, ih, ih (30 * 0 + d), List.length_cons, Nat.pow_succ, Nat.mul_zero, Nat.zero_add, Nat.add_mul, Nat.mul_comm 30 v, Nat.mul_assoc, Nat.mul_comm 30, Nat.add_assoc]
  intro r
  unfold num
  rw [List.foldl_append]
  exact key r _
theorem num_lt : ∀ (r : List Nat), (∀ d, d ∈ r → d < 30) → num r < 30 ^ r.length := by
  intro r
  induction r with
  | nil => intro _; decide
  | cons d r ih =>
    intro h
    have h1 := ih fun x hx => h x (List.mem_cons_of_mem _ hx)
    have h2 := h d List.mem_cons_self
    have h3 := num_app [d] r
    have h4 : num [d] = d := by
      show 30 * 0 + d = d
      omega
    rw [h4] at h3
    have h5 : [d] ++ r = d :: r := rfl
    rw [h5] at h3
    rw [h3, List.length_cons, Nat.pow_succ]
    have h6 : d * 30 ^ r.length ≤ 29 * 30 ^ r.length := Nat.mul_le_mul_right _ (by omega)
    omega
theorem num_cmp {c r r' : List Nat} {d d' : Nat} (hl : r.length = r'.length) (hr : ∀ x, x ∈ r → x < 30) (hd : d < d') : num (c ++ [d] ++ r) < num (c ++ [d'] ++ r') := by
  rw [num_app, num_app (c ++ [d']), num_snoc, num_snoc, ← hl]
  have h1 := num_lt r hr
  have h2 : (30 * num c + d + 1) * 30 ^ r.length ≤ (30 * num c + d') * 30 ^ r.length := Nat.mul_le_mul_right _ (by omega)
  rw [Nat.add_mul, Nat.one_mul] at h2
  omega
theorem num_dig {c : List Nat} (h : ∀ d, d ∈ c → d < 30) {b : Nat} (hb : b < c.length) : num c / 30 ^ (c.length - 1 - b) % 30 = c.getD b 0 := by
  have e : c = (c.take b ++ [c.getD b 0]) ++ c.drop (b + 1) := by
    rw [← l_snoc, List.getD_eq_getElem?_getD, List.getElem?_eq_getElem hb, Option.getD_some, List.getElem_cons_drop, List.take_append_drop]
  have hl : (c.drop (b + 1)).length = c.length - 1 - b := by rw [List.length_drop]; omega
  have h1 := num_lt (c.drop (b + 1)) fun d hd => h d (List.mem_of_mem_drop hd)
  have h2 : c.getD b 0 < 30 := by
    rw [List.getD_eq_getElem?_getD, List.getElem?_eq_getElem hb]
    exact h _ (List.getElem_mem hb)
  have h3 := num_app (c.take b ++ [c.getD b 0]) (c.drop (b + 1))
  rw [← e, num_snoc, hl] at h3
  rw [hl] at h1
  rw [h3, Nat.mul_comm, Nat.mul_add_div (Nat.pow_pos (by decide)), Nat.div_eq_of_lt h1, Nat.add_zero, Nat.mul_add_mod, Nat.mod_eq_of_lt h2]
end
section
/-! the foldings in the class's order, and the least of them -/
def lc (n : Nat) : Nat → Nat → Nat → (Nat → Nat) → Nat → List Nat → List (List Nat)
  | 0, _, _, _, _, _ => []
  | f + 1, i, s, h, ta, c => if i < n then ups (fun k => ups (fun l => if ta.testBit (k * 5 + l) = true then [] else if n < s + (l + 1 - h k) then [] else lc n f (i + 1) (s + (l + 1 - h k)) (va_up h k (h k + (l + 1 - h k))) (ta ||| 2 ^ (k * 5 + l)) (c ++ [10 * k + l])) n 0) 3 0 else [c]
def PI (n i s : Nat) (h : Nat → Nat) (ta : Nat) (c : List Nat) : Prop := c.length = i ∧ c.Nodup ∧ (∀ b, b < i → c.getD b 0 / 10 < 3 ∧ c.getD b 0 % 10 < h (c.getD b 0 / 10) ∧ ta.testBit (spot (c.getD b 0)) = true) ∧ s = h 0 + h 1 + h 2 ∧ s ≤ n ∧ n ≤ 5
theorem gd_l {c : List Nat} {d b : Nat} (h : b < c.length) : (c ++ [d]).getD b 0 = c.getD b 0 := by
  rw [List.getD_eq_getElem?_getD, List.getD_eq_getElem?_getD, List.getElem?_append_left h]
theorem gd_r {c : List Nat} {d b : Nat} (h : b = c.length) : (c ++ [d]).getD b 0 = d := by
  rw [List.getD_eq_getElem?_getD, List.getElem?_append_right (by omega), h, Nat.sub_self]
  rfl
theorem spot_k {k l : Nat} (h : l < 10) : spot (10 * k + l) = k * 5 + l := by
  unfold spot
  omega
theorem PI.step {n i s ta k l : Nat} {h : Nat → Nat} {c : List Nat} (hp : PI n i s h ta c) (hk : k < 3) (hl : l < n) (ht : ta.testBit (k * 5 + l) = false) (hs : ¬ n < s + (l + 1 - h k)) : PI n (i + 1) (s + (l + 1 - h k)) (va_up h k (h k + (l + 1 - h k))) (ta ||| 2 ^ (k * 5 + l)) (c ++ [10 * k + l]) := by
  obtain ⟨p1, p2, p3, p4, p5, p6⟩ := hp
  have hsp : spot (10 * k + l) = k * 5 + l := spot_k (by omega)
  refine ⟨by rw [List.length_append, List.length_singleton, p1], ?_, fun b hb => ?_, ?_, by omega, p6⟩
  · rw [List.nodup_append]
    refine ⟨p2, List.nodup_cons.mpr ⟨List.not_mem_nil, List.nodup_nil⟩, fun a ha b hb => ?_⟩
    rw [List.mem_singleton] at hb
    intro e
    obtain ⟨j, hj⟩ := List.mem_iff_getElem?.mp ha
    have hjl := l_lt hj
    have := (p3 j (by omega)).2.2
    rw [List.getD_eq_getElem?_getD, hj, Option.getD_some, e, hb, hsp, ht] at this
    exact absurd this (by decide)
  · by_cases e : b < i
    · rw [gd_l (by omega)]
      obtain ⟨q1, q2, q3⟩ := p3 b e
      refine ⟨q1, ?_, ?_⟩
      · rw [q_up]
        split
        · rename_i e2
          rw [e2] at q2
          omega
        · exact q2
      · rw [Nat.testBit_or, q3]
        rfl
    · rw [gd_r (by omega)]
      have e1 : (10 * k + l) / 10 = k := by omega
      have e2 : (10 * k + l) % 10 = l := by omega
      refine ⟨by omega, ?_, ?_⟩
      · rw [e1, e2, q_up, if_pos rfl]
        omega
      · rw [hsp, Nat.testBit_or, Nat.testBit_two_pow]
        simp
  · rcases wb_cases hk with rfl | rfl | rfl
    · show _ = (h 0 + (l + 1 - h 0)) + h 1 + h 2
      omega
    · show _ = h 0 + (h 1 + (l + 1 - h 1)) + h 2
      omega
    · show _ = h 0 + h 1 + (h 2 + (l + 1 - h 2))
      omega
theorem PI.end {n s ta : Nat} {h : Nat → Nat} {c : List Nat} (hp : PI n n s h ta c) : ∃ B, FD n c B ∧ ∀ k, k < 3 → (B k).length = h k := FD.of hp.2.2.2.2.2 hp.1 hp.2.1 (fun b hb => ⟨(hp.2.2.1 b hb).1, (hp.2.2.1 b hb).2.1⟩) (by have := hp.2.2.2.1; have := hp.2.2.2.2.1; omega)
theorem lc_in {n : Nat} {x : List Nat} : ∀ {f i s ta : Nat} {h : Nat → Nat} {c : List Nat}, PI n i s h ta c → i ≤ n → x ∈ lc n f i s h ta c → (∃ B, FD n x B) ∧ ∃ r, x = c ++ r
  | 0, i, s, ta, h, c, hp, hi, hx => absurd hx List.not_mem_nil
  | f + 1, i, s, ta, h, c, hp, hi, hx => by
    rw [lc] at hx
    by_cases e : i < n
    · rw [if_pos e, ups_mem] at hx
      obtain ⟨k, -, hk, hx⟩ := hx
      rw [ups_mem] at hx
      obtain ⟨l, -, hl, hx⟩ := hx
      by_cases e1 : ta.testBit (k * 5 + l) = true
      · rw [if_pos e1] at hx
        exact absurd hx List.not_mem_nil
      · rw [if_neg e1] at hx
        by_cases e2 : n < s + (l + 1 - h k)
        · rw [if_pos e2] at hx
          exact absurd hx List.not_mem_nil
        · rw [if_neg e2] at hx
          obtain ⟨h1, r, h2⟩ := lc_in (hp.step (by omega) (by omega) (by simpa using e1) e2) e hx
          exact ⟨h1, (10 * k + l) :: r, by rw [h2, ← l_snoc]⟩
    · rw [if_neg e, List.mem_singleton] at hx
      have : i = n := by omega
      subst this
      obtain ⟨B, h1, -⟩ := hp.end
      subst hx
      exact ⟨⟨B, h1⟩, [], by rw [List.append_nil]⟩
theorem FD.d30 {n : Nat} {c : List Nat} {B : BB} (h : FD n c B) : ∀ d, d ∈ c → d < 30 := by
  intro d hd
  obtain ⟨b, hb⟩ := List.mem_iff_getElem?.mp hd
  have hbl := l_lt hb
  obtain ⟨k, i, hk, hi, -, hc⟩ := h.at (b := b) (by rw [← h.1]; exact hbl)
  rw [List.getD_eq_getElem?_getD, hb, Option.getD_some] at hc
  omega
theorem ups_pw {α : Type} {P : α → α → Prop} {g : Nat → List α} : ∀ {d v : Nat}, (∀ w, v ≤ w → w < v + d → (g w).Pairwise P) → (∀ w u x y, v ≤ w → w < u → u < v + d → x ∈ g w → y ∈ g u → P x y) → (ups g d v).Pairwise P
  | 0, v, _, _ => List.Pairwise.nil
  | d + 1, v, h1, h2 => by
    rw [ups, List.pairwise_append]
    refine ⟨h1 v (by omega) (by omega), ups_pw (fun w a b => h1 w (by omega) (by omega)) (fun w u x y a b c => h2 w u x y (by omega) b (by omega)), fun x hx y hy => ?_⟩
    obtain ⟨u, a, b, hy⟩ := ups_mem.mp hy
    exact h2 v u x y (by omega) (by omega) (by omega) hx hy
theorem lc_srt {n : Nat} : ∀ {f i s ta : Nat} {h : Nat → Nat} {c : List Nat}, PI n i s h ta c → i ≤ n → (lc n f i s h ta c).Pairwise (fun a b => num a < num b)
  | 0, i, s, ta, h, c, hp, hi => List.Pairwise.nil
  | f + 1, i, s, ta, h, c, hp, hi => by
    rw [lc]
    by_cases e : i < n
    · rw [if_pos e]
      have key : ∀ k l x, k < 3 → l < n → x ∈ (if ta.testBit (k * 5 + l) = true then [] else if n < s + (l + 1 - h k) then [] else lc n f (i + 1) (s + (l + 1 - h k)) (va_up h k (h k + (l + 1 - h k))) (ta ||| 2 ^ (k * 5 + l)) (c ++ [10 * k + l])) → ∃ r, x = c ++ [10 * k + l] ++ r ∧ x.length = n ∧ ∀ d, d ∈ x → d < 30 := by
        intro k l x hk hl hx
        by_cases e1 : ta.testBit (k * 5 + l) = true
        · rw [if_pos e1] at hx
          exact absurd hx List.not_mem_nil
        · rw [if_neg e1] at hx
          by_cases e2 : n < s + (l + 1 - h k)
          · rw [if_pos e2] at hx
            exact absurd hx List.not_mem_nil
          · rw [if_neg e2] at hx
            obtain ⟨⟨B, h1⟩, r, h2⟩ := lc_in (hp.step hk hl (by simpa using e1) e2) e hx
            exact ⟨r, h2, h1.1, h1.d30⟩
      have cmp : ∀ d d' x y, d < d' → (∃ r, x = c ++ [d] ++ r ∧ x.length = n ∧ ∀ d, d ∈ x → d < 30) → (∃ r, y = c ++ [d'] ++ r ∧ y.length = n ∧ ∀ d, d ∈ y → d < 30) → num x < num y := by
        rintro d d' x y hd ⟨r, hr, hl, h30⟩ ⟨r', hr', hl', -⟩
        subst hr hr'
        refine num_cmp ?_ (fun z hz => h30 z (List.mem_append_right _ hz)) hd
        rw [List.length_append, List.length_append, List.length_singleton] at hl hl'
        omega
      have hn5 := hp.2.2.2.2.2
      refine ups_pw (fun k _ hk => ups_pw (fun l _ hl => ?_) (fun l l' x y _ h1 h2 hx hy => ?_)) (fun k k' x y _ h1 h2 hx hy => ?_)
      · show List.Pairwise _ (if ta.testBit (k * 5 + l) = true then [] else if n < s + (l + 1 - h k) then [] else lc n f (i + 1) (s + (l + 1 - h k)) (va_up h k (h k + (l + 1 - h k))) (ta ||| 2 ^ (k * 5 + l)) (c ++ [10 * k + l]))
        by_cases e1 : ta.testBit (k * 5 + l) = true
        · rw [if_pos e1]
          exact List.Pairwise.nil
        · rw [if_neg e1]
          by_cases e2 : n < s + (l + 1 - h k)
          · rw [if_pos e2]
            exact List.Pairwise.nil
          · rw [if_neg e2]
            exact lc_srt (hp.step (by omega) (by omega) (by simpa using e1) e2) e
      · exact cmp _ _ x y (by omega) (key k l x (by omega) (by omega) hx) (key k l' y (by omega) (by omega) hy)
      · obtain ⟨l, -, hl, hx⟩ := ups_mem.mp hx
        obtain ⟨l', -, hl', hy⟩ := ups_mem.mp hy
        exact cmp _ _ x y (by omega) (key k l x (by omega) (by omega) hx) (key k' l' y (by omega) (by omega) hy)
    · rw [if_neg e]
      exact List.pairwise_singleton _ _
/-- every folding is on the class's way -/
theorem lc_mem {n : Nat} {x : List Nat} {B : BB} (hF : FD n x B) : ∀ {f i s ta : Nat} {h : Nat → Nat} {c r : List Nat}, c ++ r = x → c.length = i → i ≤ n → n < i + f → (∀ k, k < 3 → h k ≤ (B k).length) → s = h 0 + h 1 + h 2 → (∀ b, i ≤ b → b < n → ta.testBit (spot (x.getD b 0)) = false) → x ∈ lc n f i s h ta c
  | 0, i, s, ta, h, c, r, _, _, _, hf, _, _, _ => absurd hf (by omega)
  | f + 1, i, s, ta, h, c, r, hx, hc, hi, hf, hh, hs, ht => by
    have hlen := hF.2.1.len
    rw [lc]
    by_cases e : i < n
    · obtain ⟨k, l, hk, hl, hb, hcd⟩ := hF.at e
      have hll := l_lt hb
      have hkn := hF.2.1.le hk
      have hd : r = (10 * k + l) :: r.tail := by
        have h1 : x[i]? = some (10 * k + l) := by
          rw [← hcd, List.getD_eq_getElem?_getD, List.getElem?_eq_getElem (by rw [hF.1]; exact e)]
          rfl
        rw [← hx, List.getElem?_append_right (by omega), hc, Nat.sub_self] at h1
        cases r with
        | nil => exact absurd h1 (by rw [List.getElem?_nil]; exact fun h => nomatch h)
        | cons a r =>
          rw [List.getElem?_cons_zero, Option.some.injEq] at h1
          rw [h1]
          rfl
      have h0 := hh 0 (by omega)
      have h1 := hh 1 (by omega)
      have h2 := hh 2 (by omega)
      have htk := ht i (Nat.le_refl _) e
      rw [hcd, spot_k (by omega)] at htk
      rw [if_pos e, ups_mem]
      refine ⟨k, by omega, by omega, ?_⟩
      rw [ups_mem]
      refine ⟨l, by omega, by omega, ?_⟩
      rw [if_neg (by rw [htk]; decide)]
      have hsl : ¬ n < s + (l + 1 - h k) := by
        rcases wb_cases hk with rfl | rfl | rfl <;> omega
      rw [if_neg hsl]
      refine lc_mem hF (r := r.tail) ?_ ?_ (by omega) (by omega) (fun k' hk' => ?_) ?_ (fun b hb1 hb2 => ?_)
      · rw [← l_snoc, ← hd, hx]
      · rw [List.length_append, List.length_singleton, hc]
      · rw [q_up]
        split
        · rename_i e2
          rw [e2]
          have := hh k hk
          omega
        · exact hh k' hk'
      · rcases wb_cases hk with rfl | rfl | rfl
        · show _ = (h 0 + (l + 1 - h 0)) + h 1 + h 2
          omega
        · show _ = h 0 + (h 1 + (l + 1 - h 1)) + h 2
          omega
        · show _ = h 0 + h 1 + (h 2 + (l + 1 - h 2))
          omega
      · rw [Nat.testBit_or, ht b (by omega) hb2, Bool.false_or, Nat.testBit_two_pow, decide_eq_false_iff_not]
        obtain ⟨k', l', hk', hl', hb', hcd'⟩ := hF.at hb2
        rw [hcd', spot_k (by omega)]
        intro q
        have q1 : k = k' := by omega
        have q2 : l = l' := by omega
        subst q1 q2
        rw [hb] at hb'
        have := Option.some.inj hb'
        omega
    · rw [if_neg e, List.mem_singleton]
      have h1 : r.length = 0 := by
        have := congrArg List.length hx
        rw [List.length_append, hF.1] at this
        omega
      have h2 := List.length_eq_zero_iff.mp h1
      rw [← hx, h2, List.append_nil]
def LC (n : Nat) : List (List Nat) := lc n 7 0 0 (fun _ => 0) 0 []
theorem pi0 {n : Nat} (hn : n ≤ 5) : PI n 0 0 (fun _ => 0) 0 [] := ⟨rfl, List.nodup_nil, fun b hb => absurd hb (Nat.not_lt_zero b), rfl, Nat.zero_le _, hn⟩
theorem LC_mem {n : Nat} (hn : n ≤ 5) {x : List Nat} : x ∈ LC n ↔ ∃ B, FD n x B := by
  constructor
  · intro h
    exact (lc_in (pi0 hn) (Nat.zero_le _) h).1
  · rintro ⟨B, h⟩
    exact lc_mem h (r := x) rfl rfl (Nat.zero_le _) (by omega) (fun _ _ => Nat.zero_le _) rfl (fun b _ _ => Nat.zero_testBit _)
/-! the least -/
def cst (D : List Nat → Nat) (st : Nat × List Nat) (c : List Nat) : Nat × List Nat := if st.1 ≤ D c then st else (D c, c)
def mst (D : List Nat → Nat) (st : Nat × Nat) (c : List Nat) : Nat × Nat := if D c < st.1 ∨ (D c = st.1 ∧ num c < st.2) then (D c, num c) else st
theorem cst_0 (D : List Nat → Nat) {st : Nat × List Nat} (h : st.1 = 0) : ∀ L : List (List Nat), L.foldl (cst D) st = st
  | [] => rfl
  | c :: L => by
    have e : cst D st c = st := if_pos (by omega)
    rw [List.foldl_cons, e]
    exact cst_0 D h L
theorem cst_fold (D : List Nat → Nat) : ∀ (L : List (List Nat)) (st : Nat × List Nat), L.Pairwise (fun a b => num a < num b) → (L.foldl (cst D) st = st ∧ ∀ c, c ∈ L → st.1 ≤ D c) ∨ ((L.foldl (cst D) st).1 < st.1 ∧ (L.foldl (cst D) st).2 ∈ L ∧ (L.foldl (cst D) st).1 = D (L.foldl (cst D) st).2 ∧ ∀ c, c ∈ L → (L.foldl (cst D) st).1 < D c ∨ ((L.foldl (cst D) st).1 = D c ∧ num (L.foldl (cst D) st).2 ≤ num c))
  | [], st, _ => Or.inl ⟨rfl, fun c h => absurd h List.not_mem_nil⟩
  | a :: L, st, hp => by
    obtain ⟨p1, p2⟩ := List.pairwise_cons.mp hp
    rw [List.foldl_cons]
    by_cases e : st.1 ≤ D a
    · have ea : cst D st a = st := if_pos e
      rw [ea]
      rcases cst_fold D L st p2 with ⟨h1, h2⟩ | ⟨h1, h2, h3, h4⟩
      · refine Or.inl ⟨h1, fun c hc => ?_⟩
        rcases List.mem_cons.mp hc with rfl | hc
        · exact e
        · exact h2 c hc
      · refine Or.inr ⟨h1, List.mem_cons_of_mem _ h2, h3, fun c hc => ?_⟩
        rcases List.mem_cons.mp hc with rfl | hc
        · exact Or.inl (by omega)
        · exact h4 c hc
    · have ea : cst D st a = (D a, a) := if_neg e
      rw [ea]
      rcases cst_fold D L (D a, a) p2 with ⟨h1, h2⟩ | ⟨h1, h2, h3, h4⟩
      · rw [h1]
        refine Or.inr ⟨by show D a < st.1; omega, List.mem_cons_self, rfl, fun c hc => ?_⟩
        rcases List.mem_cons.mp hc with rfl | hc
        · exact Or.inr ⟨rfl, Nat.le_refl _⟩
        · have h5 : D a ≤ D c := h2 c hc
          by_cases e2 : D a = D c
          · exact Or.inr ⟨e2, Nat.le_of_lt (p1 c hc)⟩
          · exact Or.inl (by show D a < D c; omega)
      · have h1' : (L.foldl (cst D) (D a, a)).1 < D a := h1
        refine Or.inr ⟨by omega, List.mem_cons_of_mem _ h2, h3, fun c hc => ?_⟩
        rcases List.mem_cons.mp hc with rfl | hc
        · exact Or.inl h1'
        · exact h4 c hc
theorem mst_fold (D : List Nat → Nat) : ∀ (L : List (List Nat)) (st : Nat × Nat), (L.foldl (mst D) st = st ∨ ∃ b, b ∈ L ∧ L.foldl (mst D) st = (D b, num b)) ∧ (∀ c, c ∈ L → (L.foldl (mst D) st).1 < D c ∨ ((L.foldl (mst D) st).1 = D c ∧ (L.foldl (mst D) st).2 ≤ num c)) ∧ ((L.foldl (mst D) st).1 < st.1 ∨ ((L.foldl (mst D) st).1 = st.1 ∧ (L.foldl (mst D) st).2 ≤ st.2))
  | [], st => ⟨Or.inl rfl, fun c h => absurd h List.not_mem_nil, Or.inr ⟨rfl, Nat.le_refl _⟩⟩
  | a :: L, st => by
    rw [List.foldl_cons]
    by_cases e : D a < st.1 ∨ (D a = st.1 ∧ num a < st.2)
    · have ea : mst D st a = (D a, num a) := if_pos e
      rw [ea]
      obtain ⟨h1, h2, h3⟩ := mst_fold D L (D a, num a)
      have h3' : (L.foldl (mst D) (D a, num a)).1 < D a ∨ ((L.foldl (mst D) (D a, num a)).1 = D a ∧ (L.foldl (mst D) (D a, num a)).2 ≤ num a) := h3
      refine ⟨Or.inr ?_, fun c hc => ?_, by omega⟩
      · rcases h1 with h1 | ⟨b, hb, h1⟩
        · exact ⟨a, List.mem_cons_self, h1⟩
        · exact ⟨b, List.mem_cons_of_mem _ hb, h1⟩
      · rcases List.mem_cons.mp hc with rfl | hc
        · exact h3'
        · exact h2 c hc
    · have ea : mst D st a = st := if_neg e
      rw [ea]
      obtain ⟨h1, h2, h3⟩ := mst_fold D L st
      refine ⟨?_, fun c hc => ?_, h3⟩
      · rcases h1 with h1 | ⟨b, hb, h1⟩
        · exact Or.inl h1
        · exact Or.inr ⟨b, List.mem_cons_of_mem _ hb, h1⟩
      · rcases List.mem_cons.mp hc with rfl | hc
        · omega
        · exact h2 c hc
theorem least_eq (D : List Nat → Nat) {L M : List (List Nat)} (hp : L.Pairwise (fun a b => num a < num b)) (hD : ∀ c, c ∈ L → D c ≤ 405) (hm : ∀ c, c ∈ L ↔ c ∈ M) {a : List Nat} (ha : a ∈ L) : ∃ b, b ∈ L ∧ L.foldl (cst D) (406, []) = (D b, b) ∧ M.foldl (mst D) (1000000000, 0) = (D b, num b) := by
  rcases cst_fold D L (406, []) hp with ⟨h1, h2⟩ | ⟨h1, h2, h3, h4⟩
  · have h5 : 406 ≤ D a := h2 a ha
    have := hD a ha
    omega
  · obtain ⟨m1, m2, m3⟩ := mst_fold D M (1000000000, 0)
    generalize hr : L.foldl (cst D) (406, []) = r at h1 h2 h3 h4
    obtain ⟨l, b⟩ := r
    have h3' : l = D b := h3
    subst h3'
    refine ⟨b, h2, rfl, ?_⟩
    have mb := m2 b ((hm b).mp h2)
    rcases m1 with m1 | ⟨b', hb', m1⟩
    · rw [m1] at mb
      have mb' : 1000000000 < D b ∨ (1000000000 = D b ∧ 0 ≤ num b) := mb
      have := hD b h2
      omega
    · rw [m1] at mb ⊢
      have mb' : D b' < D b ∨ (D b' = D b ∧ num b' ≤ num b) := mb
      have h4' : D b < D b' ∨ (D b = D b' ∧ num b ≤ num b') := h4 b' ((hm b').mpr hb')
      have e1 : D b' = D b := by omega
      have e2 : num b' = num b := by omega
      rw [e1, e2]
end
section
/-! best, the class -/
def CS0 (N : NN) (S : M2) : Prop :=
  (S 0 0 = nI (N 0 0) ∧ S 4 0 = nI (N 4 0) ∧ S 7 0 = nI (N 7 0) ∧ S 12 0 = nI (N 12 0) ∧ S 13 0 = nI (N 13 0) ∧ S 14 0 = nI (N 14 0) ∧ S 15 0 = nI (N 15 0)) ∧
  (∀ b, b < N 0 0 → S 1 b = nI (N 1 b) ∧ S 2 b = nI (N 2 b) ∧ S 3 b = nI (N 3 b)) ∧
  (∀ m, m < N 7 0 → S 8 m = nI (N 8 m) ∧ S 9 m = nI (N 9 m) ∧ S 10 m = nI (N 10 m) ∧ S 11 m = nI (N 11 m)) ∧
  (∀ i, i < N 15 0 → S 16 i = nI (N 16 i) ∧ S 17 i = nI (N 17 i))
theorem CS.to0 {N : NN} {B : BB} {S : M2} (h : CS N B S) : CS0 N S := ⟨h.1, h.2.1, h.2.2.1, h.2.2.2.1⟩
theorem CS0.of5 {N : NN} {S : M2} {f g : Nat → Int32} (h : CS0 N S) : CS0 N (va_up (va_up S 5 f) 6 g) := h
noncomputable def DD (N : NN) (n : Nat) (c : List Nat) : Nat := spAll (spNight N (trc n c) 15) (trc n c)
theorem WF.loose {N : NN} {B : BB} (hW : WF N B) (fl : Nat) : ∀ t, t ≤ N 7 0 → WF (va_up N 3 (spLoose N B fl t)) B
  | 0, _ => by rw [spLoose, up_id]; exact hW
  | t + 1, ht => by
    have ih := hW.loose fl t (by omega)
    rw [spLoose]
    by_cases e : fl.testBit t = true
    · rw [if_pos e]
      refine WF.eat _ _ _ (fun b hb => hW.2.2.2.2.lt (k := N 11 t) ?_ hb) ih
      have := hW.2.2.1 t (by omega)
      omega
    · rw [if_neg e]
      exact ih
theorem DD_le {N : NN} {B : BB} {c : List Nat} (hW : WF N B) (hc : ∃ B', FD (N 0 0) c B') : DD N (N 0 0) c ≤ 405 := by
  obtain ⟨B', h⟩ := hc
  exact spAll_le ((hW.bb (trc_fd h).2.1).loose 15 _ (Nat.le_refl _))
theorem spLoose_cg {N : NN} {B B' : BB} {fl : Nat} (hm : ∀ m, m < N 7 0 → N 11 m ≤ 2) (e : ∀ k, k < 3 → B' k = B k) : ∀ t, t ≤ N 7 0 → spLoose N B' fl t = spLoose N B fl t
  | 0, _ => rfl
  | t + 1, ht => by
    have := hm t (by omega)
    rw [spLoose, spLoose, spLoose_cg hm e t (by omega), e (N 11 t) (by omega)]
theorem spAll_cg {N : NN} {B B' : BB} (hm : ∀ m, m < N 7 0 → N 11 m ≤ 2) (e : ∀ k, k < 3 → B' k = B k) : spAll (spNight N B' 15) B' = spAll (spNight N B 15) B := by
  have e1 : spNight N B' 15 = spNight N B 15 := by
    unfold spNight
    rw [spLoose_cg hm e _ (Nat.le_refl _)]
  rw [e1]
  unfold spAll
  rw [e 0 (by omega), e 1 (by omega), e 2 (by omega)]
def PS (N : NN) (i : Nat) (h : Nat → Nat) (c : List Nat) (ta : Nat) (T S : M2) : Prop := (∃ g, CS0 (va_up N 3 g) S) ∧ T 4 0 = nI ta ∧ ta < 2 ^ 15 ∧ (∀ k, k < 3 → S 6 k = nI (h k)) ∧ ∀ b, b < i → T 1 b = nI (c.getD b 0) ∧ S 5 (spot (c.getD b 0)) = nI b
def BSt (n : Nat) (T : M2) (st : Nat × List Nat) : Prop := T 3 0 = nI st.1 ∧ st.1 ≤ 406 ∧ (st.1 < 406 → ∀ b, b < n → T 2 b = nI (st.2.getD b 0))
theorem q_x9 {a b : Nat} {d : Decidable (nI 0 < nI a - nI b)} (h : a < 2 ^ 30 ∧ b < 2 ^ 30) : @ite Int32 (nI 0 < nI a - nI b) d (nI a - nI b) (nI 0) = nI (a - b) := by
  by_cases e : b ≤ a
  · have e1 : nI a - nI b = nI (a - b) := q_sub e
    by_cases e2 : nI 0 < nI a - nI b
    · rw [if_pos e2, e1]
    · rw [if_neg e2]
      rw [e1, q_lt (by omega)] at e2
      rw [show a - b = 0 by omega]
  · have e1 : ¬ nI 0 < nI a - nI b := by
      rw [Int32.lt_iff_toInt_lt, pk_sub_toInt (by omega) (by omega), nI_toInt (by decide)]
      omega
    rw [if_neg e1, show a - b = 0 by omega]
theorem q_clear {ta sp : Nat} (h : ta.testBit sp = false) : nI (ta ||| 2 ^ sp) &&& (nI (2 ^ sp) ^^^ (-nI 1)) = nI ta := by
  apply Int32.toBitVec_inj.1
  show BitVec.ofNat 32 (ta ||| 2 ^ sp) &&& (BitVec.ofNat 32 (2 ^ sp) ^^^ BitVec.allOnes 32) = BitVec.ofNat 32 ta
  apply BitVec.eq_of_getLsbD_eq
  intro i hi
  simp only [BitVec.getLsbD_and, BitVec.getLsbD_xor, BitVec.getLsbD_ofNat, BitVec.getLsbD_allOnes, hi, decide_true, Bool.true_and, Nat.testBit_or, Nat.testBit_two_pow]
  by_cases e : sp = i
  · subst e
    rw [h]
    simp
  · simp [e]
/-- all bolts are placed -/
theorem t_weigh {N : NN} {B : BB} {X2 T S : M2} {s ta : Nat} {h : Nat → Nat} {c : List Nat} {st : Nat × List Nat} (hX : CS N B X2) (hW : WF N B) (hp : PI (N 0 0) (N 0 0) s h ta c) (hS : PS N (N 0 0) h c ta T S) (hB : BSt (N 0 0) T st) : ∃ T' S', fX0_weighFolding T S X2 = some (T', S') ∧ PS N (N 0 0) h c ta T' S' ∧ BSt (N 0 0) T' (cst (DD N (N 0 0)) st c) := by
  obtain ⟨B', f1, f2⟩ := hp.end
  have hF := trc_fd f1
  have hlen : ∀ k, k < 3 → (trc (N 0 0) c k).length = h k := fun k hk => by rw [f1.uq hF k hk]; exact f2 k hk
  obtain ⟨⟨g, s1⟩, s2, s3, s4, s5⟩ := hS
  obtain ⟨b1, b2, b3⟩ := hB
  have hn := hW.1.1
  have hC : CS (va_up N 3 g) (trc (N 0 0) c) S := by
    refine ⟨s1.1, s1.2.1, s1.2.2.1, s1.2.2.2, fun k hk => ⟨by rw [hlen k hk]; exact s4 k hk, fun i b hb => ?_⟩⟩
    have hi := hF.lt hk hb
    obtain ⟨hbn, hc⟩ := (hF.2.2.2 k i b hk (by omega)).mp hb
    have := (s5 b hbn).2
    rw [hc, spot_k (by omega)] at this
    exact this
  have hW' : WF N (trc (N 0 0) c) := hW.bb hF.2.1
  obtain ⟨S1, a1, a2⟩ := t_copyHoles hC (fun b hb => (hX.2.1 b hb).2.2) hn
  obtain ⟨S2, c1, c2, c3⟩ := t_loose (fl := 15) (by omega) a2 hW'
  have hd := t_dutyAll c2 c3
  have hd' : fX1_dutyOfAll S2 = some (nI (DD N (N 0 0) c)) := hd
  have hle : DD N (N 0 0) c ≤ 405 := DD_le hW ⟨_, f1⟩
  have hPS : ∀ T', T' 4 = T 4 → T' 1 = T 1 → PS N (N 0 0) h c ta T' S2 := by
    intro T' t4 t1
    refine ⟨⟨_, c2.to0⟩, by rw [t4]; exact s2, s3, fun k hk => ?_, fun b hb => ⟨by rw [t1]; exact (s5 b hb).1, ?_⟩⟩
    · rw [(c2.2.2.2.2 k hk).1, hlen k hk]
    · obtain ⟨k, i, hk, hi, hx, hc⟩ := hF.at hb
      rw [hc, spot_k (by omega)]
      exact (c2.2.2.2.2 k hk).2 i b hx
  by_cases e : st.1 ≤ DD N (N 0 0) c
  · have ec : cst (DD N (N 0 0)) st c = st := if_pos e
    refine ⟨T, S2, ?_, hPS T rfl rfl, by rw [ec]; exact ⟨b1, b2, b3⟩⟩
    simp (disch := omega) only [fX0_weighFolding, lt, q_some, a1, c1, hd', b1, q_le, q_lit, q_pos]
  · have ec : cst (DD N (N 0 0)) st c = (DD N (N 0 0) c, c) := if_neg e
    refine ⟨va_up (va_up T 3 (fun _ => nI (DD N (N 0 0) c))) 2 (va_cpy (T 1) (T 2) 0 0 5), S2, ?_, hPS _ rfl rfl, ?_⟩
    · simp (disch := omega) only [fX0_weighFolding, lt, q_some, a1, c1, hd', b1, q_le, q_lit, q_neg]
      rfl
    · rw [ec]
      refine ⟨rfl, by show DD N (N 0 0) c ≤ 406; omega, fun _ b hb => ?_⟩
      show va_cpy (T 1) (T 2) 0 0 5 b = _
      rw [q_cpy (by omega)]
      exact (s5 b hb).1
theorem t_pl38 {N : NN} {n f i s k ta : Nat} {h : Nat → Nat} {c : List Nat} {X2 T0 S0 : M2} (hX0 : X2 0 0 = nI n) (hk : k < 3) (hi : i < n) (hp : PI n i s h ta c) (D : List Nat → Nat) (IH : ∀ (l : Nat) (T S : M2) (st : Nat × List Nat), l < n → ta.testBit (k * 5 + l) = false → ¬ n < s + (l + 1 - h k) → PS N (i + 1) (va_up h k (h k + (l + 1 - h k))) (c ++ [10 * k + l]) (ta ||| 2 ^ (k * 5 + l)) T S → BSt n T st → ∃ T' S', fX0_placeFrom f (nI (i + 1)) (nI (s + (l + 1 - h k))) T S X2 = some (T', S') ∧ PS N (i + 1) (va_up h k (h k + (l + 1 - h k))) (c ++ [10 * k + l]) (ta ||| 2 ^ (k * 5 + l)) T' S' ∧ BSt n T' ((lc n f (i + 1) (s + (l + 1 - h k)) (va_up h k (h k + (l + 1 - h k))) (ta ||| 2 ^ (k * 5 + l)) (c ++ [10 * k + l])).foldl (cst D) st)) : ∀ (d l g : Nat) (T S : M2) (st : Nat × List Nat), l + d = n → d < g → PS N i h c ta T S → BSt n T st → ∃ T' S', (∀ kk : (M2 × M2) → Option (M2 × M2), fX0_placeFrom_L38 T0 S0 (nI i) (nI s) X2 (fun i2 i3 T S => fX0_placeFrom f i2 i3 T S X2) (nI k) (nI (h k)) kk g (nI l) T S = kk (T', S')) ∧ PS N i h c ta T' S' ∧ BSt n T' ((ups (fun l => if ta.testBit (k * 5 + l) = true then [] else if n < s + (l + 1 - h k) then [] else lc n f (i + 1) (s + (l + 1 - h k)) (va_up h k (h k + (l + 1 - h k))) (ta ||| 2 ^ (k * 5 + l)) (c ++ [10 * k + l])) d l).foldl (cst D) st)
  | 0, l, g + 1, T, S, st, hl, hg, hS, hB => by
    have hn5 := hp.2.2.2.2.2
    refine ⟨T, S, fun kk => ?_, hS, hB⟩
    simp (disch := omega) only [fX0_placeFrom_L38, lt, jn, q_lit, q_bnd, q_cl, q_le, q_lt, q_eq, pk_mul, nI_add, q_sub, q_div, q_pos, q_neg, q_T, q_F, q_max0, q_flg1, q_flg0, q_min, q_min2, q_bit, q_some, hX0]
  | d + 1, l, g + 1, T, S, st, hl, hg, hS, hB => by
    have hn5 := hp.2.2.2.2.2
    have hsn := hp.2.2.2.2.1
    have hsum := hp.2.2.2.1
    have hhk : h k ≤ 5 := by rcases wb_cases hk with rfl | rfl | rfl <;> omega
    rw [ups, List.foldl_append]
    have e4 := hS.2.1
    have ta15 := hS.2.2.1
    have tb31 : ta < 2 ^ 31 := Nat.lt_trans ta15 (by decide)
    by_cases e1 : ta.testBit (k * 5 + l) = true
    · rw [if_pos e1, List.foldl_nil]
      obtain ⟨T', S', r1, r2⟩ := t_pl38 (T0 := T0) (S0 := S0) hX0 hk hi hp D IH d (l + 1) g T S st (by omega) (by omega) hS hB
      refine ⟨T', S', fun kk => ?_, r2⟩
      rw [← r1 kk]
      have hb : (nI ta >>> (nI (k * 5 + l) &&& nI 31)) &&& nI 1 = nI 1 := by rw [q_bit (by omega), e1]; rfl
      simp (disch := omega) only [fX0_placeFrom_L38, lt, jn, q_lit, q_le, q_neg, q_T, q_F, pk_mul, nI_add, hX0, e4, hb, q_eq, q_pos]
    · have e1' : ta.testBit (k * 5 + l) = false := by simpa using e1
      have hb : (nI ta >>> (nI (k * 5 + l) &&& nI 31)) &&& nI 1 = nI 0 := by rw [q_bit (by omega), e1']; rfl
      rw [if_neg e1]
      by_cases e2 : n < s + (l + 1 - h k)
      · rw [if_pos e2, List.foldl_nil]
        obtain ⟨T', S', r1, r2⟩ := t_pl38 (T0 := T0) (S0 := S0) hX0 hk hi hp D IH d (l + 1) g T S st (by omega) (by omega) hS hB
        refine ⟨T', S', fun kk => ?_, r2⟩
        rw [← r1 kk]
        simp (disch := omega) only [fX0_placeFrom_L38, lt, jn, q_lit, q_le, q_lt, q_neg, q_T, q_F, pk_mul, nI_add, hX0, e4, hb, q_eq, q_pos, q_x9]
      · rw [if_neg e2]
        by_cases e3 : st.1 = 0
        · rw [cst_0 D e3]
          obtain ⟨T', S', r1, r2⟩ := t_pl38 (T0 := T0) (S0 := S0) hX0 hk hi hp D IH d (l + 1) g T S st (by omega) (by omega) hS hB
          refine ⟨T', S', fun kk => ?_, r2⟩
          rw [← r1 kk]
          have b1 : T 3 0 = nI 0 := by rw [hB.1, e3]
          simp (disch := omega) only [fX0_placeFrom_L38, lt, jn, q_lit, q_le, q_lt, q_neg, q_T, q_F, pk_mul, nI_add, hX0, e4, hb, q_eq, q_pos, q_x9, b1]
        · obtain ⟨⟨g0, s1⟩, s2, s3, s4, s5⟩ := id hS
          obtain ⟨b1, b2, b3⟩ := id hB
          have hsp : spot (10 * k + l) = k * 5 + l := spot_k (by omega)
          have hcl := hp.1
          have sp15 : 2 ^ (k * 5 + l) < 2 ^ 15 := Nat.pow_lt_pow_right (by decide) (by omega)
          have hS' : PS N (i + 1) (va_up h k (h k + (l + 1 - h k))) (c ++ [10 * k + l]) (ta ||| 2 ^ (k * 5 + l)) (va_up (va_up T 4 (fun _ => nI (ta ||| 2 ^ (k * 5 + l)))) 1 (upd (T 1) i (nI (10 * k + l)))) (va_up (va_up S 5 (upd (S 5) (k * 5 + l) (nI i))) 6 (upd (S 6) k (nI (h k + (l + 1 - h k))))) := by
            refine ⟨⟨g0, s1⟩, rfl, Nat.or_lt_two_pow s3 sp15, fun k' hk' => ?_, fun b hb => ?_⟩
            · show upd (S 6) k (nI (h k + (l + 1 - h k))) k' = _
              rw [q_ud, q_up]
              by_cases q : k' = k
              · rw [if_pos q, if_pos q]
              · rw [if_neg q, if_neg q]
                exact s4 k' hk'
            · show upd (T 1) i (nI (10 * k + l)) b = _ ∧ upd (S 5) (k * 5 + l) (nI i) (spot ((c ++ [10 * k + l]).getD b 0)) = _
              rw [q_ud, q_ud]
              by_cases q : b < i
              · obtain ⟨p1, p2, p3⟩ := hp.2.2.1 b q
                rw [gd_l (by omega), if_neg (by omega)]
                have : spot (c.getD b 0) ≠ k * 5 + l := fun q2 => by
                  rw [q2, e1'] at p3
                  exact absurd p3 (by decide)
                rw [if_neg this]
                exact s5 b q
              · have : b = i := by omega
                rw [gd_r (by omega), hsp, if_pos this, if_pos rfl, this]
                exact ⟨rfl, rfl⟩
          obtain ⟨T2, S2, c1, c2, c3⟩ := IH l _ _ st (by omega) e1' e2 hS' ⟨b1, b2, b3⟩
          obtain ⟨⟨g2, d1⟩, d2, d3, d4, d5⟩ := c2
          have hSb : PS N i h c ta (va_up T2 4 (fun _ => nI ta)) (va_up S2 6 (upd (S2 6) k (nI (h k)))) := by
            refine ⟨⟨g2, d1⟩, rfl, s3, fun k' hk' => ?_, fun b hb => ?_⟩
            · show upd (S2 6) k (nI (h k)) k' = _
              rw [q_ud]
              by_cases q : k' = k
              · rw [if_pos q, q]
              · rw [if_neg q, d4 k' hk', q_up, if_neg q]
            · have := d5 b (by omega)
              rw [gd_l (by omega)] at this
              exact this
          obtain ⟨T', S', r1, r2⟩ := t_pl38 (T0 := T0) (S0 := S0) hX0 hk hi hp D IH d (l + 1) g _ _ _ (by omega) (by omega) hSb c3
          refine ⟨T', S', fun kk => ?_, r2⟩
          rw [← r1 kk]
          have b1n : ¬ nI st.1 = nI 0 := by rw [q_eq (by omega)]; exact e3
          have hsh : nI ta ||| (nI 1 <<< (nI (k * 5 + l) &&& nI 31)) = nI (ta ||| 2 ^ (k * 5 + l)) := by rw [q_shl (by omega), q_or]
          have hcr : nI (ta ||| 2 ^ (k * 5 + l)) &&& ((nI 1 <<< (nI (k * 5 + l) &&& nI 31)) ^^^ (-nI 1)) = nI ta := by rw [q_shl (by omega)]; exact q_clear e1'
          have t1 : ∀ f, va_up T 4 f 1 = T 1 := fun _ => rfl
          have s6 : ∀ f, va_up S 5 f 6 = S 6 := fun _ => rfl
          simp (disch := omega) only [fX0_placeFrom_L38, lt, jn, q_lit, q_le, q_lt, q_neg, q_T, q_F, q_bnd, q_cl, q_some, pk_mul, nI_add, hX0, e4, hb, q_eq, q_pos, q_x9, b1, b1n, hsh, t1, s6, c1, d2, hcr]
theorem t_pl17 {N : NN} {n f i s ta : Nat} {h : Nat → Nat} {c : List Nat} {X2 T0 S0 : M2} (hX0 : X2 0 0 = nI n) (hi : i < n) (hp : PI n i s h ta c) (D : List Nat → Nat) (IH : ∀ (k l : Nat) (T S : M2) (st : Nat × List Nat), k < 3 → l < n → ta.testBit (k * 5 + l) = false → ¬ n < s + (l + 1 - h k) → PS N (i + 1) (va_up h k (h k + (l + 1 - h k))) (c ++ [10 * k + l]) (ta ||| 2 ^ (k * 5 + l)) T S → BSt n T st → ∃ T' S', fX0_placeFrom f (nI (i + 1)) (nI (s + (l + 1 - h k))) T S X2 = some (T', S') ∧ PS N (i + 1) (va_up h k (h k + (l + 1 - h k))) (c ++ [10 * k + l]) (ta ||| 2 ^ (k * 5 + l)) T' S' ∧ BSt n T' ((lc n f (i + 1) (s + (l + 1 - h k)) (va_up h k (h k + (l + 1 - h k))) (ta ||| 2 ^ (k * 5 + l)) (c ++ [10 * k + l])).foldl (cst D) st)) : ∀ (d k g : Nat) (T S : M2) (st : Nat × List Nat), k + d = 3 → d < g → PS N i h c ta T S → BSt n T st → ∃ T' S', (∀ kk : (M2 × M2) → Option (M2 × M2), fX0_placeFrom_L17 T0 S0 (nI i) (nI s) X2 (fun i2 i3 T S => fX0_placeFrom f i2 i3 T S X2) kk g (nI k) T S = kk (T', S')) ∧ PS N i h c ta T' S' ∧ BSt n T' ((ups (fun k => ups (fun l => if ta.testBit (k * 5 + l) = true then [] else if n < s + (l + 1 - h k) then [] else lc n f (i + 1) (s + (l + 1 - h k)) (va_up h k (h k + (l + 1 - h k))) (ta ||| 2 ^ (k * 5 + l)) (c ++ [10 * k + l])) n 0) d k).foldl (cst D) st)
  | 0, k, g + 1, T, S, st, hl, hg, hS, hB => by
    refine ⟨T, S, fun kk => ?_, hS, hB⟩
    have : k = 3 := by omega
    subst this
    simp (disch := omega) only [fX0_placeFrom_L17, lt, jn, q_lit, q_bnd, q_cl, q_le, q_lt, q_eq, pk_mul, nI_add, q_sub, q_div, q_pos, q_neg, q_T, q_F, q_max0, q_flg1, q_flg0, q_min, q_min2, q_bit, q_some]
  | d + 1, k, g + 1, T, S, st, hl, hg, hS, hB => by
    have hn5 := hp.2.2.2.2.2
    rw [ups, List.foldl_append]
    obtain ⟨T2, S2, a1, a2, a3⟩ := t_pl38 (T0 := T0) (S0 := S0) hX0 (show k < 3 by omega) hi hp D (fun l T S st => IH k l T S st (by omega)) n 0 400 T S st (by omega) (by omega) hS hB
    obtain ⟨T', S', r1, r2⟩ := t_pl17 (T0 := T0) (S0 := S0) hX0 hi hp D IH d (k + 1) g T2 S2 _ (by omega) (by omega) a2 a3
    refine ⟨T', S', fun kk => ?_, r2⟩
    rw [← r1 kk]
    have e6 := hS.2.2.2.1 k (by omega)
    simp (disch := omega) only [fX0_placeFrom_L17, lt, q_lit, q_le, q_neg, q_bnd, q_cl, e6, a1, nI_add]
theorem t_place {N : NN} {B : BB} {X2 : M2} (hX : CS N B X2) (hW : WF N B) : ∀ (f i s ta : Nat) (h : Nat → Nat) (c : List Nat) (T S : M2) (st : Nat × List Nat), PI (N 0 0) i s h ta c → i ≤ N 0 0 → N 0 0 < i + f → PS N i h c ta T S → BSt (N 0 0) T st → ∃ T' S', fX0_placeFrom f (nI i) (nI s) T S X2 = some (T', S') ∧ PS N i h c ta T' S' ∧ BSt (N 0 0) T' ((lc (N 0 0) f i s h ta c).foldl (cst (DD N (N 0 0))) st)
  | 0, i, s, ta, h, c, T, S, st, hp, hi, hf, hS, hB => absurd hf (by omega)
  | f + 1, i, s, ta, h, c, T, S, st, hp, hi, hf, hS, hB => by
    have hX0 : X2 0 0 = nI (N 0 0) := hX.1.1
    have hn := hW.1.1
    rw [lc]
    by_cases e : i < N 0 0
    · rw [if_pos e]
      obtain ⟨T', S', r1, r2⟩ := t_pl17 (T0 := T) (S0 := S) hX0 e hp (DD N (N 0 0)) (fun k l T S st hk hl ht hs hS hB => t_place hX hW f (i + 1) _ _ _ _ T S st (hp.step hk hl ht hs) e (by omega) hS hB) 3 0 400 T S st (by omega) (by omega) hS hB
      refine ⟨T', S', ?_, r2⟩
      have := r1 (fun p29 => some (p29.1, p29.2))
      simp (disch := omega) only [fX0_placeFrom, q_lt, q_pos, hX0]
      exact this
    · rw [if_neg e]
      have e' : i = N 0 0 := by omega
      subst e'
      obtain ⟨T', S', a1, a2⟩ := t_weigh hX hW hp hS hB
      refine ⟨T', S', ?_, a2⟩
      simp (disch := omega) only [fX0_placeFrom, lt, q_lt, q_neg, hX0, a1, q_some]
theorem t_findBest {N : NN} {B : BB} {X2 : M2} (hX : CS N B X2) (hW : WF N B) (T S : M2) : ∃ T' S', fX0_findBest T S X2 = some (T', S') ∧ BSt (N 0 0) T' ((LC (N 0 0)).foldl (cst (DD N (N 0 0))) (406, [])) := by
  obtain ⟨Q, c1, c2⟩ := t_copy S hX hW
  have L : ∀ (S : M2) (f : Nat) (kk : (M2 × M2) → Option (M2 × M2)), fX0_findBest_L10 T X2 kk (f + 4) (nI 0) T S = kk (T, va_up S 6 (upd (upd (upd (S 6) 0 (nI 0)) 1 (nI 0)) 2 (nI 0))) := by
    intro S f kk
    simp (disch := omega) only [fX0_findBest_L10, lt, jn, q_lit, q_bnd, q_cl, q_le, q_lt, q_eq, pk_mul, nI_add, q_sub, q_div, q_pos, q_neg, q_T, q_F, q_max0, q_flg1, q_flg0, q_min, q_min2, q_bit, q_some, q_up, up_up]
  have hS : PS N 0 (fun _ => 0) [] 0 (va_up (va_up T 3 (fun _ => nI 406)) 4 (fun _ => nI 0)) (va_up Q 6 (upd (upd (upd (Q 6) 0 (nI 0)) 1 (nI 0)) 2 (nI 0))) := by
    refine ⟨⟨N 3, by rw [up_id]; exact c2.to0⟩, rfl, by decide, fun k hk => ?_, fun b hb => absurd hb (Nat.not_lt_zero b)⟩
    rcases wb_cases hk with rfl | rfl | rfl <;> rfl
  have hn := hW.1.1
  obtain ⟨T', S', a1, a2, a3⟩ := t_place hX hW 7 0 0 0 (fun _ => 0) [] _ _ (406, []) (pi0 hn) (Nat.zero_le _) (by omega) hS ⟨rfl, Nat.le_refl _, fun h => absurd h (Nat.lt_irrefl _)⟩
  refine ⟨T', S', ?_, a3⟩
  unfold fX0_findBest
  rw [c1, q_some, q_ltn]
  refine (L _ 396 _).trans ?_
  rw [q_ltn, q_ltn]
  have a1' : fX0_placeFrom 7 (0 : Int32) (0 : Int32) (va_up (va_up T 3 (fun _ => (406 : Int32))) 4 (fun _ => (0 : Int32))) (va_up Q 6 (upd (upd (upd (Q 6) 0 (nI 0)) 1 (nI 0)) 2 (nI 0))) X2 = some (T', S') := a1
  rw [a1', q_some, q_ltn, q_ltn]
end
section
/-! best, the model -/
def cut (row : List Nat) (x y : Nat) : BB := fun k => if k = 0 then row.take x else if k = 1 then (row.drop x).take (y - x) else row.drop y
theorem cut_at {row : List Nat} {x y k i b : Nat} (hxy : x ≤ y) (hk : k < 3) (h : (cut row x y k)[i]? = some b) : ∃ j, row[j]? = some b ∧ (if x ≤ j then (if y ≤ j then 2 else 1) else 0) = k ∧ (if x ≤ j then (if y ≤ j then j - y else j - x) else j) = i := by
  rcases wb_cases hk with rfl | rfl | rfl
  · have h' : (row.take x)[i]? = some b := h
    rw [List.getElem?_take] at h'
    by_cases e : i < x
    · rw [if_pos e] at h'
      exact ⟨i, h', by rw [if_neg (by omega)], by rw [if_neg (by omega)]⟩
    · rw [if_neg e] at h'
      exact absurd h' (fun h => nomatch h)
  · have h' : ((row.drop x).take (y - x))[i]? = some b := h
    rw [List.getElem?_take] at h'
    by_cases e : i < y - x
    · rw [if_pos e, List.getElem?_drop] at h'
      exact ⟨x + i, h', by rw [if_pos (by omega), if_neg (by omega)], by rw [if_pos (by omega), if_neg (by omega)]; omega⟩
    · rw [if_neg e] at h'
      exact absurd h' (fun h => nomatch h)
  · have h' : (row.drop y)[i]? = some b := h
    rw [List.getElem?_drop] at h'
    exact ⟨y + i, h', by rw [if_pos (by omega), if_pos (by omega)], by rw [if_pos (by omega), if_pos (by omega)]; omega⟩
theorem cut_wb {n : Nat} {row : List Nat} (hr : row.Perm (List.range n)) {x y : Nat} (hxy : x ≤ y) : WB n (cut row x y) := by
  intro a
  have h1 := hr.count_eq a
  rw [List.count_range] at h1
  rw [← h1]
  have e : row = row.take x ++ ((row.drop x).take (y - x) ++ row.drop y) := by
    have e2 : row.drop y = (row.drop x).drop (y - x) := by
      rw [List.drop_drop]
      congr 1
      omega
    rw [e2, List.take_append_drop, List.take_append_drop]
  have e3 : row.count a = (row.take x).count a + (((row.drop x).take (y - x)).count a + (row.drop y).count a) := by
    have := congrArg (List.count a) e
    rw [List.count_append, List.count_append] at this
    exact this
  rw [e3, Nat.add_assoc]
  rfl
noncomputable def cof (n : Nat) (B : BB) : List Nat := @dite _ (∃ c, FD n c B) (Classical.propDecidable _) (fun h => h.choose) (fun _ => [])
theorem cof_fd {n : Nat} {B : BB} (h : WB n B) (hn : n ≤ 5) : FD n (cof n B) B := by
  have hx : ∃ c, FD n c B := FD.mk h hn
  unfold cof
  rw [dif_pos hx]
  exact hx.choose_spec
noncomputable def lmc (n v : Nat) : List (List Nat) := if isR n v = true then ups (fun w => if w % 6 < w / 6 then [] else if n < w % 6 then [] else [cof n (cut (dgs n v) (w / 6) (w % 6))]) 36 0 else []
noncomputable def LM (n : Nat) : List (List Nat) := ups (lmc n) (n ^ n) 0
theorem LM_mem {n : Nat} (hn : n ≤ 5) {c : List Nat} : c ∈ LM n ↔ ∃ B, FD n c B := by
  unfold LM
  rw [ups_mem]
  constructor
  · rintro ⟨v, -, hv, hc⟩
    unfold lmc at hc
    by_cases e : isR n v = true
    · rw [if_pos e, ups_mem] at hc
      obtain ⟨w, -, hw, hc⟩ := hc
      by_cases e1 : w % 6 < w / 6
      · rw [if_pos e1] at hc
        exact absurd hc List.not_mem_nil
      · rw [if_neg e1] at hc
        by_cases e2 : n < w % 6
        · rw [if_pos e2] at hc
          exact absurd hc List.not_mem_nil
        · rw [if_neg e2, List.mem_singleton] at hc
          have hr : (dgs n v).Perm (List.range n) := chk_perm.mp (by rw [← isR_eq hn (by omega)]; exact e)
          rw [hc]
          exact ⟨_, cof_fd (cut_wb hr (by omega)) hn⟩
    · rw [if_neg e] at hc
      exact absurd hc List.not_mem_nil
  · rintro ⟨B, h⟩
    have hp := h.2.1.perm
    obtain ⟨v, hv, hd⟩ := row_ex hp
    have hlen := h.2.1.len
    refine ⟨v, Nat.zero_le _, by omega, ?_⟩
    unfold lmc
    rw [isR_eq hn hv, hd, chk_perm.mpr hp, if_pos rfl, ups_mem]
    have q1 : ((B 0).length * 6 + ((B 0).length + (B 1).length)) / 6 = (B 0).length := by omega
    have q2 : ((B 0).length * 6 + ((B 0).length + (B 1).length)) % 6 = (B 0).length + (B 1).length := by omega
    refine ⟨(B 0).length * 6 + ((B 0).length + (B 1).length), Nat.zero_le _, by omega, ?_⟩
    rw [q1, q2, if_neg (by omega), if_neg (by omega), List.mem_singleton]
    refine h.codes (cof_fd (cut_wb hp (by omega)) hn) fun k hk => ?_
    rcases wb_cases hk with rfl | rfl | rfl
    · show (B 0 ++ B 1 ++ B 2).take (B 0).length = B 0
      rw [List.append_assoc, List.take_left]
    · show ((B 0 ++ B 1 ++ B 2).drop (B 0).length).take ((B 0).length + (B 1).length - (B 0).length) = B 1
      rw [List.append_assoc, List.drop_left, Nat.add_sub_cancel_left, List.take_left]
    · show (B 0 ++ B 1 ++ B 2).drop ((B 0).length + (B 1).length) = B 2
      rw [← List.length_append, List.drop_left]
theorem m_cut_L {n x y : Nat} {row : List Nat} (hn : n ≤ 5) (hx : x ≤ 5) (hy : y ≤ 5) (hxy : x ≤ y) (hl : row.length = n) (hnd : row.Nodup) (hlt : ∀ b, b ∈ row → b < n) : ∀ (d t f : Nat) (S : M2), t + d = n → d < f → S 3 0 = nI n → (∀ i b, row[i]? = some b → S 19 i = nI b) → ∃ S', (∀ kk : M2 → Option M2, fX5_cutsAt_L2 (nI x) (nI y) kk f (nI t) S = kk S') ∧ (∀ q, q ≠ 1 → S' q = S q) ∧ (∀ j b, t ≤ j → row[j]? = some b → S' 1 (6 * b + 4) = nI (if x ≤ j then (if y ≤ j then 2 else 1) else 0) ∧ S' 1 (6 * b + 5) = nI (if x ≤ j then (if y ≤ j then j - y else j - x) else j)) ∧ ∀ z, (∀ j b, t ≤ j → row[j]? = some b → z ≠ 6 * b + 4 ∧ z ≠ 6 * b + 5) → S' 1 z = S 1 z
  | 0, t, f + 1, S, ht, hf, h3, h19 => by
    refine ⟨S, fun kk => ?_, fun _ _ => rfl, fun j b hj hb => ?_, fun _ _ => rfl⟩
    · simp (disch := omega) only [fX5_cutsAt_L2, lt, jn, q_lit, q_bnd, q_cl, q_le, q_lt, q_eq, pk_mul, nI_add, q_sub, q_div, q_pos, q_neg, q_T, q_F, q_max0, q_flg1, q_flg0, q_min, q_min2, q_bit, q_some, h3]
    · have := l_lt hb
      omega
  | d + 1, t, f + 1, S, ht, hf, h3, h19 => by
    have htl : t < row.length := by omega
    obtain ⟨b0, hb0⟩ : ∃ b, row[t]? = some b := ⟨_, List.getElem?_eq_getElem htl⟩
    have hb0n := hlt b0 (List.mem_of_getElem? hb0)
    have h19b := h19 t b0 hb0
    obtain ⟨S', a1, a2, a3, a4⟩ := m_cut_L hn hx hy hxy hl hnd hlt d (t + 1) f (va_up S 1 (upd (upd (S 1) (6 * b0 + 4) (nI (if x ≤ t then (if y ≤ t then 2 else 1) else 0))) (6 * b0 + 5) (nI (if x ≤ t then (if y ≤ t then t - y else t - x) else t)))) (by omega) (by omega) h3 h19
    refine ⟨S', fun kk => ?_, fun q hq => by rw [a2 q hq, q_up, if_neg hq], fun j b hj hb => ?_, fun z hz => ?_⟩
    · rw [← a1 kk]
      have h19c : ∀ g, va_up S 1 g 19 t = nI b0 := fun _ => h19b
      have s1 : ∀ g, va_up S 1 g 1 = g := fun _ => rfl
      by_cases e1 : x ≤ t
      · by_cases e2 : y ≤ t
        · rw [if_pos e1, if_pos e2, if_pos e1, if_pos e2]
          simp (disch := omega) only [fX5_cutsAt_L2, fX5_becomesOf, lt, jn, q_lit, q_le, q_neg, q_pos, q_T, q_F, q_bnd, q_cl, q_some, pk_mul, nI_add, q_sub, h3, h19b, h19c, s1, up_up]
        · rw [if_pos e1, if_neg e2, if_pos e1, if_neg e2]
          simp (disch := omega) only [fX5_cutsAt_L2, fX5_becomesOf, lt, jn, q_lit, q_le, q_neg, q_pos, q_T, q_F, q_bnd, q_cl, q_some, pk_mul, nI_add, q_sub, h3, h19b, h19c, s1, up_up]
      · rw [if_neg e1, if_neg e1]
        simp (disch := omega) only [fX5_cutsAt_L2, fX5_becomesOf, lt, jn, q_lit, q_le, q_neg, q_pos, q_T, q_F, q_bnd, q_cl, q_some, pk_mul, nI_add, q_sub, h3, h19b, h19c, s1, up_up]
    · by_cases e : j = t
      · subst e
        rw [hb0, Option.some.injEq] at hb
        subst hb
        have nt : ∀ z, z = 6 * b0 + 4 ∨ z = 6 * b0 + 5 → ∀ j' b', j + 1 ≤ j' → row[j']? = some b' → z ≠ 6 * b' + 4 ∧ z ≠ 6 * b' + 5 := by
          intro z hz j' b' hj' hb'
          have : b' ≠ b0 := fun q => by
            rw [q] at hb'
            have := nd_ix hnd hb' hb0
            omega
          omega
        rw [a4 _ (nt _ (Or.inl rfl)), a4 _ (nt _ (Or.inr rfl)), q_up, if_pos rfl, q_ud, if_neg (by omega), q_ud, if_pos rfl, q_ud, if_pos rfl]
        exact ⟨rfl, rfl⟩
      · exact a3 j b (by omega) hb
    · have h0 := hz t b0 (Nat.le_refl _) hb0
      rw [a4 z fun j b hj hb => hz j b (by omega) hb, q_up, if_pos rfl, q_ud, if_neg h0.2, q_ud, if_neg h0.1]
theorem m_cutsAt {N : NN} {B : BB} {S0 S : M2} {x y : Nat} {row : List Nat} (hS : MA N B S0 S) (hW : WF N B) (hxy : x ≤ y) (hy : y ≤ 5) (hr : row.Perm (List.range (N 0 0))) (h19 : ∀ i b, row[i]? = some b → S 19 i = nI b) : ∃ S', fX5_cutsAt (nI x) (nI y) S = some S' ∧ MA N (cut row x y) S0 S' ∧ WF N (cut row x y) := by
  have hlen : row.length = N 0 0 := by rw [hr.length_eq, List.length_range]
  have hnd : row.Nodup := hr.symm.nodup List.nodup_range
  have hlt : ∀ b, b ∈ row → b < N 0 0 := fun b hb => List.mem_range.mp (hr.mem_iff.mp hb)
  obtain ⟨S', a1, a2, a3, a4⟩ := m_cut_L hW.1.1 (show x ≤ 5 by omega) hy hxy hlen hnd hlt (N 0 0) 0 400 S (by omega) (by have := hW.1.1; omega) hS.n h19
  refine ⟨S', ?_, ⟨fun q hq => by rw [a2 q hq]; exact hS.1 q hq, hS.2.1, hS.2.2.1, ?_⟩, hW.bb (cut_wb hr hxy)⟩
  · unfold fX5_cutsAt
    exact a1 _
  · obtain ⟨⟨m1, m2, m3, m4⟩, h2, h3, h4, h5⟩ := hS.2.2.2
    have w1 := hW.1
    have o : ∀ z, (∀ c, c < N 0 0 → z ≠ 6 * c + 4 ∧ z ≠ 6 * c + 5) → S' 1 z = S 1 z := fun z hz => a4 z fun j b _ hb => hz b (hlt b (List.mem_of_getElem? hb))
    refine ⟨⟨?_, ?_, ?_, ?_⟩, fun b hb => ⟨?_, ?_, ?_, ?_⟩, fun m hm => ⟨?_, ?_, ?_, ?_⟩, fun i hi => ⟨?_, ?_⟩, fun k' hk' i b hb => ?_⟩
    · rw [o _ fun c hc => by omega]; exact m1
    · rw [o _ fun c hc => by omega]; exact m2
    · rw [o _ fun c hc => by omega]; exact m3
    · rw [o _ fun c hc => by omega]; exact m4
    · rw [o _ fun c hc => by omega]; exact (h2 b hb).1
    · rw [o _ fun c hc => by omega]; exact (h2 b hb).2.1
    · rw [o _ fun c hc => by omega]; exact (h2 b hb).2.2.1
    · rw [o _ fun c hc => by omega]; exact (h2 b hb).2.2.2
    · rw [o _ fun c hc => by omega]; exact (h3 m hm).1
    · rw [o _ fun c hc => by omega]; exact (h3 m hm).2.1
    · rw [o _ fun c hc => by omega]; exact (h3 m hm).2.2.1
    · rw [o _ fun c hc => by omega]; exact (h3 m hm).2.2.2
    · rw [o _ fun c hc => by omega]; exact (h4 i hi).1
    · rw [o _ fun c hc => by omega]; exact (h4 i hi).2
    · obtain ⟨j, hj, e1, e2⟩ := cut_at hxy hk' hb
      have := a3 j b (Nat.zero_le _) hj
      rw [e1, e2] at this
      exact this
theorem m_pl_L {N : NN} {B : BB} {S0 S : M2} {c : List Nat} (hS : MA N B S0 S) (hW : WF N B) (hF : FD (N 0 0) c B) (kk : Int32 → Option Int32) : ∀ d t f : Nat, t + d = N 0 0 → d < f → fX5_placesNow_L4 S kk f (nI (num (c.take t))) (nI t) = kk (nI (num c))
  | 0, t, f + 1, ht, hf => by
    have w1 := hW.1.1
    have e : t = N 0 0 := by omega
    rw [List.take_of_length_le (by rw [hF.1]; omega)]
    simp (disch := omega) only [fX5_placesNow_L4, lt, jn, q_lit, q_bnd, q_cl, q_le, q_lt, q_eq, pk_mul, nI_add, q_sub, q_div, q_pos, q_neg, q_T, q_F, q_max0, q_flg1, q_flg0, q_min, q_min2, q_bit, q_some, hS.n]
  | d + 1, t, f + 1, ht, hf => by
    have w1 := hW.1.1
    have ih := m_pl_L hS hW hF kk d (t + 1) f (by omega) (by omega)
    obtain ⟨k, i, hk, hi, hb, hc⟩ := hF.at (b := t) (by omega)
    obtain ⟨m5, m6⟩ := hS.2.2.2.2.2.2.2 k hk i t hb
    have e : c.take (t + 1) = c.take t ++ [10 * k + i] := by
      rw [List.take_succ, ← hc, List.getD_eq_getElem?_getD, List.getElem?_eq_getElem (by rw [hF.1]; omega)]
      rfl
    rw [e, num_snoc] at ih
    have e2 : 30 * num (c.take t) + 10 * k + i = 30 * num (c.take t) + (10 * k + i) := by omega
    rw [← e2] at ih
    simp (disch := omega) only [fX5_placesNow_L4, fX5_of, lt, jn, q_lit, q_bnd, q_cl, q_le, q_lt, q_eq, pk_mul, nI_add, q_sub, q_div, q_pos, q_neg, q_T, q_F, q_max0, q_flg1, q_flg0, q_min, q_min2, q_bit, q_some, hS.n, m5, m6]
    exact ih
theorem m_places {N : NN} {B : BB} {S0 S : M2} {c : List Nat} (hS : MA N B S0 S) (hW : WF N B) (hF : FD (N 0 0) c B) : fX5_placesNow S = some (nI (num c)) := by
  have w1 := hW.1.1
  exact m_pl_L hS hW hF (fun p => some p) (N 0 0) 0 400 (by omega) (by omega)
theorem num_bd {n : Nat} {c : List Nat} {B : BB} (hF : FD n c B) : num c < 2 ^ 30 := by
  have h1 := num_lt c hF.d30
  rw [hF.1] at h1
  have h2 : 30 ^ n ≤ 30 ^ 5 := Nat.pow_le_pow_right (by decide) hF.2.2.1
  omega
theorem m_b46 {N : NN} {B : BB} {Sx : M2} (hW : WF N B) (hM : MS N B (Sx 0)) (h3 : Sx 3 0 = nI (N 0 0)) (h4 : Sx 4 0 = nI (N 7 0)) {v : Nat} (hr : (dgs (N 0 0) v).Perm (List.range (N 0 0))) (x y : Int32) : ∀ (d w f : Nat) (st : Nat × Nat) (S : M2), w + d = 36 → d < f → ME2 Sx S → (∀ i b, (dgs (N 0 0) v)[i]? = some b → S 19 i = nI b) → st.1 < 2 ^ 30 ∧ st.2 < 2 ^ 30 → ∃ (st' : Nat × Nat) (S' : M2), (∀ kk : (Int32 × Int32 × M2) → Option (Int32 × M2), fX5_best_L46 x y kk f (nI st.1) (nI st.2) (nI w) S = kk (nI st'.1, nI st'.2, S')) ∧ ME2 Sx S' ∧ (st'.1 < 2 ^ 30 ∧ st'.2 < 2 ^ 30) ∧ st' = (ups (fun w => if w % 6 < w / 6 then [] else if N 0 0 < w % 6 then [] else [cof (N 0 0) (cut (dgs (N 0 0) v) (w / 6) (w % 6))]) d w).foldl (mst (DD N (N 0 0))) st
  | 0, w, f + 1, st, S, hw, hf, hE, h19, hst => by
    refine ⟨st, S, fun kk => ?_, hE, hst, rfl⟩
    rw [fX5_best_L46]
    exact if_pos (show nI 36 ≤ nI w by rw [q_le (by omega)]; omega)
  | d + 1, w, f + 1, st, S, hw, hf, hE, h19, hst => by
    have hn := hW.1.1
    have h3' : S 3 0 = nI (N 0 0) := by rw [hE 3 (by omega) (by omega)]; exact h3
    have h4' : S 4 0 = nI (N 7 0) := by rw [hE 4 (by omega) (by omega)]; exact h4
    have hM' : MS N B (S 0) := by rw [hE 0 (by omega) (by omega)]; exact hM
    have hm : nI w - nI w / nI 6 * nI 6 = nI (w % 6) := q_mod (by omega)
    rw [q_div (by omega)] at hm
    rw [ups, List.foldl_append]
    by_cases e1 : w % 6 < w / 6
    · rw [if_pos e1, List.foldl_nil]
      obtain ⟨st', S', r1, r2⟩ := m_b46 hW hM h3 h4 hr x y d (w + 1) f st S (by omega) (by omega) hE h19 hst
      refine ⟨st', S', fun kk => ?_, r2⟩
      rw [← r1 kk]
      simp (disch := omega) only [fX5_best_L46, q_ltn, jn, q_lit, q_le, q_lt, q_eq, q_neg, q_pos, q_T, q_F, q_div, hm, nI_add]
    · rw [if_neg e1]
      by_cases e2 : N 0 0 < w % 6
      · rw [if_pos e2, List.foldl_nil]
        obtain ⟨st', S', r1, r2⟩ := m_b46 hW hM h3 h4 hr x y d (w + 1) f st S (by omega) (by omega) hE h19 hst
        refine ⟨st', S', fun kk => ?_, r2⟩
        rw [← r1 kk]
        simp (disch := omega) only [fX5_best_L46, q_ltn, jn, q_lit, q_le, q_lt, q_eq, q_neg, q_pos, q_T, q_F, q_div, hm, nI_add, h3']
      · rw [if_neg e2, List.foldl_cons, List.foldl_nil]
        obtain ⟨S10, b1, b2⟩ := m_starts (S0 := S) (S := S) (fun _ _ => rfl) h3' h4' hM' hW
        obtain ⟨S12, c1, c2, c3⟩ := m_cutsAt (x := w / 6) (y := w % 6) b2 hW (by omega) (by omega) hr (fun i b hb => by rw [b2.1 19 (by omega)]; exact h19 i b hb)
        have hF := cof_fd c3.2.2.2.2 hn
        have hpl := m_places c2 c3 hF
        obtain ⟨S15, l1, l2, l3⟩ := m_next c2 c3
        have hD : spAll (spNight N (cut (dgs (N 0 0) v) (w / 6) (w % 6)) 15) (cut (dgs (N 0 0) v) (w / 6) (w % 6)) = DD N (N 0 0) (cof (N 0 0) (cut (dgs (N 0 0) v) (w / 6) (w % 6))) := by
          unfold DD
          exact (spAll_cg (fun m hm => (hW.2.2.1 m hm).2.2.2) (hF.uq (trc_fd hF))).symm
        rw [hD] at l1
        have hDl : DD N (N 0 0) (cof (N 0 0) (cut (dgs (N 0 0) v) (w / 6) (w % 6))) ≤ 405 := DD_le hW ⟨_, hF⟩
        have hnb := num_bd hF
        have hE15 : ME2 Sx S15 := fun q q1 q2 => by rw [l2.1 q q1]; exact hE q q1 q2
        have h19' : ∀ i b, (dgs (N 0 0) v)[i]? = some b → S15 19 i = nI b := fun i b hb => by rw [l2.1 19 (by omega)]; exact h19 i b hb
        generalize cof (N 0 0) (cut (dgs (N 0 0) v) (w / 6) (w % 6)) = c at hF hpl l1 hDl hnb
        generalize hDc : DD N (N 0 0) c = Dc at l1 hDl
        by_cases e3 : Dc < st.1 ∨ (Dc = st.1 ∧ num c < st.2)
        · have em : mst (DD N (N 0 0)) st c = (Dc, num c) := by
            unfold mst
            rw [hDc, if_pos e3]
          rw [em]
          obtain ⟨st', S', r1, r2⟩ := m_b46 hW hM h3 h4 hr x y d (w + 1) f (Dc, num c) S15 (by omega) (by omega) hE15 h19' ⟨Nat.lt_of_le_of_lt hDl (by decide), hnb⟩
          refine ⟨st', S', fun kk => ?_, r2⟩
          rw [← r1 kk]
          by_cases e4 : Dc < st.1
          · simp (disch := omega) only [fX5_best_L46, q_ltn, jn, q_lit, q_le, q_lt, q_eq, q_neg, q_pos, q_T, q_F, q_div, q_some, hm, nI_add, h3', b1, c1, hpl, l1]
          · simp (disch := omega) only [fX5_best_L46, q_ltn, jn, q_lit, q_le, q_lt, q_eq, q_neg, q_pos, q_T, q_F, q_div, q_some, hm, nI_add, h3', b1, c1, hpl, l1]
        · have em : mst (DD N (N 0 0)) st c = st := by
            unfold mst
            rw [hDc, if_neg e3]
          rw [em]
          obtain ⟨st', S', r1, r2⟩ := m_b46 hW hM h3 h4 hr x y d (w + 1) f st S15 (by omega) (by omega) hE15 h19' hst
          refine ⟨st', S', fun kk => ?_, r2⟩
          rw [← r1 kk]
          by_cases e4 : Dc = st.1
          · simp (disch := omega) only [fX5_best_L46, q_ltn, jn, q_lit, q_le, q_lt, q_eq, q_neg, q_pos, q_T, q_F, q_div, q_some, hm, nI_add, h3', b1, c1, hpl, l1]
          · simp (disch := omega) only [fX5_best_L46, q_ltn, jn, q_lit, q_le, q_lt, q_eq, q_neg, q_pos, q_T, q_F, q_div, q_some, hm, nI_add, h3', b1, c1, hpl, l1]
theorem q_jnn {α β : Type} (b : (β → α) → α) (k : β → α) : jn b k = b k := Eq.trans rfl rfl
theorem m_b25 {N : NN} {B : BB} {Sx : M2} (hW : WF N B) (hM : MS N B (Sx 0)) (h3 : Sx 3 0 = nI (N 0 0)) (h4 : Sx 4 0 = nI (N 7 0)) (x : Int32) : ∀ (d v f : Nat) (st : Nat × Nat) (S : M2), v + d = N 0 0 ^ N 0 0 → d < f → ME2 Sx S → st.1 < 2 ^ 30 ∧ st.2 < 2 ^ 30 → ∃ (st' : Nat × Nat) (S' : M2), (∀ kk : (Int32 × Int32 × M2) → Option (Int32 × M2), fX5_best_L25 x kk f (nI st.1) (nI st.2) (nI v) S = kk (nI st'.1, nI st'.2, S')) ∧ ME2 Sx S' ∧ (st'.1 < 2 ^ 30 ∧ st'.2 < 2 ^ 30) ∧ st' = (ups (lmc (N 0 0)) d v).foldl (mst (DD N (N 0 0))) st
  | 0, v, f + 1, st, S, hv, hf, hE, hst => by
    have hp := row_pow hW.1.1
    have h3' : S 3 0 = nI (N 0 0) := by rw [hE 3 (by omega) (by omega)]; exact h3
    have hr := m_rows h3' hW.1.1
    refine ⟨st, S, fun kk => ?_, hE, hst, rfl⟩
    rw [fX5_best_L25, hr, q_some]
    exact if_pos (show nI (N 0 0 ^ N 0 0) ≤ nI v by rw [q_le (by omega)]; omega)
  | d + 1, v, f + 1, st, S, hv, hf, hE, hst => by
    have hp := row_pow hW.1.1
    have h3' : S 3 0 = nI (N 0 0) := by rw [hE 3 (by omega) (by omega)]; exact h3
    have hr := m_rows h3' hW.1.1
    obtain ⟨S7, a1, a2, a3⟩ := m_isRow (v := v) h3' hW.1.1 (by omega)
    have hE7 : ME2 Sx S7 := fun q q1 q2 => by rw [a2 q q2]; exact hE q q1 q2
    rw [ups, List.foldl_append]
    unfold lmc
    by_cases e : isR (N 0 0) v = true
    · rw [if_pos e]
      rw [e] at a1
      have hperm : (dgs (N 0 0) v).Perm (List.range (N 0 0)) := chk_perm.mp (by rw [← isR_eq hW.1.1 (by omega)]; exact e)
      obtain ⟨st2, S2, r1, r2, r3, r4⟩ := m_b46 hW hM h3 h4 hperm x (nI v) 36 0 4000 st S7 (by omega) (by omega) hE7 a3 hst
      rw [← r4]
      obtain ⟨st', S', u1, u2⟩ := m_b25 hW hM h3 h4 x d (v + 1) f st2 S2 (by omega) (by omega) r2 r3
      refine ⟨st', S', fun kk => ?_, u2⟩
      rw [← u1 kk]
      have hle : ¬ nI (N 0 0 ^ N 0 0) ≤ nI v := by rw [q_le (by omega)]; omega
      have h10 : ¬ (nI true.toNat, S7).1 = (0 : Int32) := show ¬ nI 1 = (0 : Int32) by decide
      rw [fX5_best_L25, hr, q_some, if_neg hle, a1, q_some, q_ltn, q_jnn, if_neg h10]
      refine (r1 _).trans ?_
      show lt (nI v + (1 : Int32)) (fun x51 => fX5_best_L25 x kk f (nI st2.1) (nI st2.2) x51 S2) = _
      rw [q_ltn, show nI v + (1 : Int32) = nI (v + 1) from nI_add v 1]
    · have e' : isR (N 0 0) v = false := by simpa using e
      rw [if_neg e, List.foldl_nil]
      rw [e'] at a1
      obtain ⟨st', S', u1, u2⟩ := m_b25 hW hM h3 h4 x d (v + 1) f st S7 (by omega) (by omega) hE7 hst
      refine ⟨st', S', fun kk => ?_, u2⟩
      rw [← u1 kk]
      have hle : ¬ nI (N 0 0 ^ N 0 0) ≤ nI v := by rw [q_le (by omega)]; omega
      have h10 : (nI false.toNat, S7).1 = (0 : Int32) := rfl
      rw [fX5_best_L25, hr, q_some, if_neg hle, a1, q_some, q_ltn, q_jnn, if_pos h10]
      show lt (nI v + (1 : Int32)) (fun x51 => fX5_best_L25 x kk f (nI st.1) (nI st.2) x51 S7) = _
      rw [q_ltn, show nI v + (1 : Int32) = nI (v + 1) from nI_add v 1]
theorem m_in_L {S : M2} {b : Nat} (hb : b < 2 ^ 20) (kk : Int32 → Option Int32) : ∀ (d p f : Nat), d < f → d < 2 ^ 20 → p < 2 ^ 30 → fX5_placeIn_L10 S (nI b) kk f (nI p) (nI (b + d)) = kk (nI (p / 30 ^ d))
  | 0, p, f + 1, hf, hd, hp => by
    rw [Nat.pow_zero, Nat.div_one, Nat.add_zero]
    simp (disch := omega) only [fX5_placeIn_L10, lt, jn, q_lit, q_bnd, q_cl, q_le, q_lt, q_eq, pk_mul, nI_add, q_sub, q_div, q_pos, q_neg, q_T, q_F, q_max0, q_flg1, q_flg0, q_min, q_min2, q_bit, q_some]
  | d + 1, p, f + 1, hf, hd, hp => by
    have ih := m_in_L (S := S) hb kk d (p / 30) f (by omega) (by omega) (by omega)
    rw [Nat.div_div_eq_div_mul, ← Nat.pow_succ'] at ih
    have e : nI (b + (d + 1)) + (-nI 1) = nI (b + d) := by
      rw [← Int32.sub_eq_add_neg, q_sub (by omega)]
      congr 1
    simp (disch := omega) only [fX5_placeIn_L10, lt, q_lit, q_le, q_eq, q_neg, q_div, e]
    exact ih
theorem m_in {S : M2} {n b p : Nat} (h3 : S 3 0 = nI n) (hn : n ≤ 5) (hb : b < n) (hp : p < 2 ^ 30) : fX5_placeIn (nI p) (nI b) S = some (nI (p / 30 ^ (n - 1 - b) % 30)) := by
  have h := fun kk => m_in_L (S := S) (b := b) (by omega) kk (n - 1 - b) p 400 (by omega) (by omega) hp
  have e : b + (n - 1 - b) = n - 1 := by omega
  rw [e] at h
  have hd : p / 30 ^ (n - 1 - b) < 2 ^ 31 := Nat.lt_of_le_of_lt (Nat.div_le_self _ _) (by omega)
  have hm : nI (p / 30 ^ (n - 1 - b)) - nI (p / 30 ^ (n - 1 - b)) / nI 30 * nI 30 = nI (p / 30 ^ (n - 1 - b) % 30) := q_mod (by omega)
  unfold fX5_placeIn
  rw [q_ltn, h3]
  have e1 : nI n - (1 : Int32) = nI (n - 1) := q_sub (show 1 ≤ n by omega)
  rw [e1, h]
  have e30 : ¬ (30 : Int32) = 0 := by decide
  rw [if_neg e30]
  exact congrArg some hm
theorem k_best {X : M3} {S : M2} (h : R X S) (x : Int32) : ∃ a X' S', fX4_best x X = some (a, X') ∧ fX5_best x S = some (a, S') ∧ R X' S' := by
  obtain ⟨N, B, hW, hn, hC, hM, e3, e4, hN, hK⟩ := h.data
  have w1 := hW.1
  have hp := row_pow w1.1
  obtain ⟨T', Q', f1, f2, f3, f4⟩ := t_findBest hC hW (X 10) (X 11)
  obtain ⟨st', S', g1, g2, g3, g4⟩ := m_b25 hW hM e3 e4 x (N 0 0 ^ N 0 0) 0 4000 (1000000000, 0) S (by omega) (by omega) (fun _ _ _ => rfl) ⟨by decide, by decide⟩
  obtain ⟨a, ha⟩ := FD.mk hW.2.2.2.2 w1.1
  obtain ⟨b, hb, r1, r2⟩ := least_eq (DD N (N 0 0)) (L := LC (N 0 0)) (M := LM (N 0 0)) (lc_srt (pi0 w1.1) (Nat.zero_le _)) (fun c hc => DD_le hW ((LC_mem w1.1).mp hc)) (fun c => (LC_mem w1.1).trans (LM_mem w1.1).symm) ((LC_mem w1.1).mpr ⟨_, ha⟩)
  have g4' : st' = (DD N (N 0 0) b, num b) := g4.trans r2
  subst g4'
  rw [r1] at f2 f3 f4
  obtain ⟨B', hF⟩ := (LC_mem w1.1).mp hb
  have hle := DD_le (c := b) hW ⟨_, hF⟩
  have g1' : ∀ kk : (Int32 × Int32 × M2) → Option (Int32 × M2), fX5_best_L25 x kk 4000 (nI 1000000000) (nI 0) (nI 0) S = kk (nI (DD N (N 0 0) b), nI (num b), S') := g1
  have hR : R (va_up (va_up X 10 T') 11 Q') S' := (h.xe fun k a1 a2 a3 => by rw [q_up, if_neg a3, q_up, if_neg a2]).me2 g2
  have eb : fX5_isBolt (x - nI 10) S = fX1_hasBolt (x - nI 10) (X 2) := m_isBolt (e3.trans hC.1.1.symm) _
  have f2' : va_up (va_up X 10 T') 11 Q' 10 3 0 = nI (DD N (N 0 0) b) := f2
  rcases t_hasBolt hC.1.1 w1.1 (x - nI 10) with ⟨j, hj, hx, h1⟩ | ⟨hno, h1⟩
  · have hx' : x = nI (j + 10) := by rw [← nI_add, ← hx, Int32.sub_add_cancel]
    rw [h1] at eb
    rw [hx] at h1 eb
    have hx10 : nI (j + 10) - nI 10 = nI j := by rw [← hx', hx]
    have hg : b.getD j 0 = num b / 30 ^ (N 0 0 - 1 - j) % 30 := by
      have := num_dig hF.d30 (b := j) (by rw [hF.1]; exact hj)
      rw [hF.1] at this
      exact this.symm
    have ft : va_up (va_up X 10 T') 11 Q' 10 2 j = nI (b.getD j 0) := f4 (by show DD N (N 0 0) b < 406; omega) j hj
    have h3' : S' 3 0 = nI (N 0 0) := by rw [g2 3 (by omega) (by omega)]; exact e3
    have hin := m_in h3' w1.1 hj (num_bd hF)
    rw [hx'] at g1' ⊢
    refine ⟨nI (b.getD j 0), _, S', ?_, ?_, hR⟩
    · simp (disch := omega) only [fX4_best, lt, jn, q_lit, q_lt, q_eq, q_neg, q_T, q_F, q_some, hx10, h1, f1, q_bnd, q_cl, ft]
    · simp (disch := omega) only [fX5_best, lt, jn, q_lit, q_eq, q_neg, q_some, hx10, eb, g1', hin, hg]
  · rw [h1] at eb
    by_cases x0 : x = nI 0
    · subst x0
      refine ⟨nI (DD N (N 0 0) b), _, S', ?_, ?_, hR⟩
      · simp (disch := omega) only [fX4_best, lt, jn, q_lit, q_lt, q_eq, q_pos, q_T, q_some, f1, f2']
      · simp (disch := omega) only [fX5_best, lt, jn, q_lit, q_eq, q_pos, q_T, q_some, g1']
    · refine ⟨-1, X, S, ?_, ?_, h⟩
      · by_cases xl : x < nI 10
        · simp (disch := omega) only [fX4_best, lt, jn, q_lit, q_bnd, q_cl, q_le, q_lt, q_eq, pk_mul, nI_add, q_sub, q_div, q_pos, q_neg, q_T, q_F, q_max0, q_flg1, q_flg0, q_min, q_min2, q_bit, q_some, xl, x0]
        · simp (disch := omega) only [fX4_best, lt, jn, q_lit, q_bnd, q_cl, q_le, q_lt, q_eq, pk_mul, nI_add, q_sub, q_div, q_pos, q_neg, q_T, q_F, q_max0, q_flg1, q_flg0, q_min, q_min2, q_bit, q_some, xl, x0, h1]
      · simp (disch := omega) only [fX5_best, lt, jn, q_lit, q_bnd, q_cl, q_le, q_lt, q_eq, pk_mul, nI_add, q_sub, q_div, q_pos, q_neg, q_T, q_F, q_max0, q_flg1, q_flg0, q_min, q_min2, q_bit, q_some, x0, eb]
end
section
/-! the law: each of its cases, and the walk -/
def OKL (A : (M3 × M2 → Option (Int32 × (M3 × M2))) → Option (Int32 × (M3 × M2))) : Prop := ∃ X' S', (∀ j, A j = j (X', S')) ∧ R X' S'
theorem ok_id {X : M3} {S : M2} (h : R X S) : OKL (fun j => j (X, S)) := ⟨X, S, fun _ => rfl, h⟩
theorem ok_if {c : Prop} {d : Decidable c} {A B : (M3 × M2 → Option (Int32 × (M3 × M2))) → Option (Int32 × (M3 × M2))} (hA : OKL A) (hB : OKL B) : OKL (fun j => if c then A j else B j) := by
  by_cases e : c
  · obtain ⟨X, S, h1, h2⟩ := hA
    exact ⟨X, S, fun j => by show (if c then A j else B j) = _; rw [if_pos e]; exact h1 j, h2⟩
  · obtain ⟨X, S, h1, h2⟩ := hB
    exact ⟨X, S, fun j => by show (if c then A j else B j) = _; rw [if_neg e]; exact h1 j, h2⟩
theorem lg_self (a : Int64) : lg_cmp a a = nI 0 := (lg_cmp_eq a a).mpr rfl
def lw0 (Ln : Nat) (xs : Nat → Int32) (v1 : Int32) (X2 : M3) (S3 : M2) (j4 : M3 × M2 → Option (Int32 × (M3 × M2))) : Option (Int32 × (M3 × M2)) :=
  bnd (v1 + (1 : Int32)) Ln <|
  (fX4_feed (xs (v1 + (1 : Int32)).toNatClampNeg) X2).bind fun q6 =>
  lt (q6.2) fun X7 =>
  bnd (v1 + (1 : Int32)) Ln <|
  (fX5_feed (xs (v1 + (1 : Int32)).toNatClampNeg) S3).bind fun q8 =>
  lt (q8.2) fun S9 =>
  if q6.1 = q8.1 then
    j4 (X7, S9)
  else
    some ((0 : Int32), (X7, S9))
theorem lw0_ok {Ln v : Nat} {xs : Nat → Int32} {X : M3} {S : M2} (h : R X S) (hv : v + 4 < Ln) (hL : Ln ≤ 320) : OKL (lw0 Ln xs (nI v) X S) := by
  obtain ⟨a, X', S', h1, h2, h3⟩ := k_feed h (xs (v + 1))
  refine ⟨X', S', fun j => ?_, h3⟩
  simp (disch := omega) only [lw0, q_ltn, q_lit, nI_add, q_bnd, q_cl, q_some, h1, h2, lg_self, if_true]
def lw1 (Ln : Nat) (xs : Nat → Int32) (v1 : Int32) (X2 : M3) (S3 : M2) (j4 : M3 × M2 → Option (Int32 × (M3 × M2))) : Option (Int32 × (M3 × M2)) :=
  bnd (v1 + (1 : Int32)) Ln <|
  (fX4_end (xs (v1 + (1 : Int32)).toNatClampNeg) X2).bind fun q12 =>
  lt (q12.2) fun X13 =>
  bnd (v1 + (1 : Int32)) Ln <|
  (fX5_end (xs (v1 + (1 : Int32)).toNatClampNeg) S3).bind fun q14 =>
  lt (q14.2) fun S15 =>
  if q12.1 = q14.1 then
    j4 (X13, S15)
  else
    some ((0 : Int32), (X13, S15))
theorem lw1_ok {Ln v : Nat} {xs : Nat → Int32} {X : M3} {S : M2} (h : R X S) (hv : v + 4 < Ln) (hL : Ln ≤ 320) : OKL (lw1 Ln xs (nI v) X S) := by
  obtain ⟨a, X', S', h1, h2, h3⟩ := k_end h (xs (v + 1))
  refine ⟨X', S', fun j => ?_, h3⟩
  simp (disch := omega) only [lw1, q_ltn, q_lit, nI_add, q_bnd, q_cl, q_some, h1, h2, lg_self, if_true]
def lw2 (Ln : Nat) (xs : Nat → Int32) (v1 : Int32) (X2 : M3) (S3 : M2) (j4 : M3 × M2 → Option (Int32 × (M3 × M2))) : Option (Int32 × (M3 × M2)) :=
  (fX4_text  X2).bind fun q18 =>
  lt (q18.2) fun X19 =>
  (fX5_text  S3).bind fun q20 =>
  lt (q20.2) fun S21 =>
  if q18.1 = q20.1 then
    j4 (X19, S21)
  else
    some ((0 : Int32), (X19, S21))
theorem lw2_ok {Ln v : Nat} {xs : Nat → Int32} {X : M3} {S : M2} (h : R X S) (hv : v + 4 < Ln) (hL : Ln ≤ 320) : OKL (lw2 Ln xs (nI v) X S) := by
  obtain ⟨a, X', S', h1, h2, h3⟩ := k_text h 
  refine ⟨X', S', fun j => ?_, h3⟩
  simp (disch := omega) only [lw2, q_ltn, q_lit, nI_add, q_bnd, q_cl, q_some, h1, h2, lg_self, if_true]
def lw3 (Ln : Nat) (xs : Nat → Int32) (v1 : Int32) (X2 : M3) (S3 : M2) (j4 : M3 × M2 → Option (Int32 × (M3 × M2))) : Option (Int32 × (M3 × M2)) :=
  (fX4_fault  X2).bind fun r24 =>
  (fX5_fault  S3).bind fun r25 =>
  if r24 = r25 then
    j4 (X2, S3)
  else
    some ((0 : Int32), (X2, S3))
theorem lw3_ok {Ln v : Nat} {xs : Nat → Int32} {X : M3} {S : M2} (h : R X S) (hv : v + 4 < Ln) (hL : Ln ≤ 320) : OKL (lw3 Ln xs (nI v) X S) := by
  obtain ⟨a, h1, h2⟩ := k_fault h 
  refine ⟨X, S, fun j => ?_, h⟩
  simp (disch := omega) only [lw3, q_ltn, q_lit, nI_add, q_bnd, q_cl, q_some, h1, h2, lg_self, if_true]
def lw4 (Ln : Nat) (xs : Nat → Int32) (v1 : Int32) (X2 : M3) (S3 : M2) (j4 : M3 × M2 → Option (Int32 × (M3 × M2))) : Option (Int32 × (M3 × M2)) :=
  bnd (v1 + (1 : Int32)) Ln <|
  (fX4_rule (xs (v1 + (1 : Int32)).toNatClampNeg) X2).bind fun r28 =>
  bnd (v1 + (1 : Int32)) Ln <|
  (fX5_rule (xs (v1 + (1 : Int32)).toNatClampNeg) S3).bind fun q29 =>
  lt (q29.2) fun S30 =>
  if r28 = q29.1 then
    j4 (X2, S30)
  else
    some ((0 : Int32), (X2, S30))
theorem lw4_ok {Ln v : Nat} {xs : Nat → Int32} {X : M3} {S : M2} (h : R X S) (hv : v + 4 < Ln) (hL : Ln ≤ 320) : OKL (lw4 Ln xs (nI v) X S) := by
  obtain ⟨a, S', h1, h2, h3⟩ := k_rule h (xs (v + 1))
  refine ⟨X, S', fun j => ?_, h3⟩
  simp (disch := omega) only [lw4, q_ltn, q_lit, nI_add, q_bnd, q_cl, q_some, h1, h2, lg_self, if_true]
def lw5 (Ln : Nat) (xs : Nat → Int32) (v1 : Int32) (X2 : M3) (S3 : M2) (j4 : M3 × M2 → Option (Int32 × (M3 × M2))) : Option (Int32 × (M3 × M2)) :=
  bnd (v1 + (1 : Int32)) Ln <|
  bnd (v1 + (2 : Int32)) Ln <|
  (fX4_bolt (xs (v1 + (1 : Int32)).toNatClampNeg) (xs (v1 + (2 : Int32)).toNatClampNeg) X2).bind fun r33 =>
  bnd (v1 + (1 : Int32)) Ln <|
  bnd (v1 + (2 : Int32)) Ln <|
  (fX5_bolt (xs (v1 + (1 : Int32)).toNatClampNeg) (xs (v1 + (2 : Int32)).toNatClampNeg) S3).bind fun r34 =>
  if r33 = r34 then
    j4 (X2, S3)
  else
    some ((0 : Int32), (X2, S3))
theorem lw5_ok {Ln v : Nat} {xs : Nat → Int32} {X : M3} {S : M2} (h : R X S) (hv : v + 4 < Ln) (hL : Ln ≤ 320) : OKL (lw5 Ln xs (nI v) X S) := by
  obtain ⟨a, h1, h2⟩ := k_bolt h (xs (v + 1)) (xs (v + 2))
  refine ⟨X, S, fun j => ?_, h⟩
  simp (disch := omega) only [lw5, q_ltn, q_lit, nI_add, q_bnd, q_cl, q_some, h1, h2, lg_self, if_true]
def lw6 (Ln : Nat) (xs : Nat → Int32) (v1 : Int32) (X2 : M3) (S3 : M2) (j4 : M3 × M2 → Option (Int32 × (M3 × M2))) : Option (Int32 × (M3 × M2)) :=
  bnd (v1 + (1 : Int32)) Ln <|
  bnd (v1 + (2 : Int32)) Ln <|
  (fX4_moth (xs (v1 + (1 : Int32)).toNatClampNeg) (xs (v1 + (2 : Int32)).toNatClampNeg) X2).bind fun r37 =>
  bnd (v1 + (1 : Int32)) Ln <|
  bnd (v1 + (2 : Int32)) Ln <|
  (fX5_moth (xs (v1 + (1 : Int32)).toNatClampNeg) (xs (v1 + (2 : Int32)).toNatClampNeg) S3).bind fun q38 =>
  lt (q38.2) fun S39 =>
  if r37 = q38.1 then
    j4 (X2, S39)
  else
    some ((0 : Int32), (X2, S39))
theorem lw6_ok {Ln v : Nat} {xs : Nat → Int32} {X : M3} {S : M2} (h : R X S) (hv : v + 4 < Ln) (hL : Ln ≤ 320) : OKL (lw6 Ln xs (nI v) X S) := by
  obtain ⟨a, S', h1, h2, h3⟩ := k_moth h (xs (v + 1)) (xs (v + 2))
  refine ⟨X, S', fun j => ?_, h3⟩
  simp (disch := omega) only [lw6, q_ltn, q_lit, nI_add, q_bnd, q_cl, q_some, h1, h2, lg_self, if_true]
def lw7 (Ln : Nat) (xs : Nat → Int32) (v1 : Int32) (X2 : M3) (S3 : M2) (j4 : M3 × M2 → Option (Int32 × (M3 × M2))) : Option (Int32 × (M3 × M2)) :=
  bnd (v1 + (1 : Int32)) Ln <|
  bnd (v1 + (2 : Int32)) Ln <|
  (fX4_bale (xs (v1 + (1 : Int32)).toNatClampNeg) (xs (v1 + (2 : Int32)).toNatClampNeg) X2).bind fun r42 =>
  bnd (v1 + (1 : Int32)) Ln <|
  bnd (v1 + (2 : Int32)) Ln <|
  (fX5_bale (xs (v1 + (1 : Int32)).toNatClampNeg) (xs (v1 + (2 : Int32)).toNatClampNeg) S3).bind fun q43 =>
  lt (q43.2) fun S44 =>
  if r42 = q43.1 then
    j4 (X2, S44)
  else
    some ((0 : Int32), (X2, S44))
theorem lw7_ok {Ln v : Nat} {xs : Nat → Int32} {X : M3} {S : M2} (h : R X S) (hv : v + 4 < Ln) (hL : Ln ≤ 320) : OKL (lw7 Ln xs (nI v) X S) := by
  obtain ⟨a, S', h1, h2, h3⟩ := k_bale h (xs (v + 1)) (xs (v + 2))
  refine ⟨X, S', fun j => ?_, h3⟩
  simp (disch := omega) only [lw7, q_ltn, q_lit, nI_add, q_bnd, q_cl, q_some, h1, h2, lg_self, if_true]
def lw8 (Ln : Nat) (xs : Nat → Int32) (v1 : Int32) (X2 : M3) (S3 : M2) (j4 : M3 × M2 → Option (Int32 × (M3 × M2))) : Option (Int32 × (M3 × M2)) :=
  bnd (v1 + (1 : Int32)) Ln <|
  bnd (v1 + (2 : Int32)) Ln <|
  (fX4_fold (xs (v1 + (1 : Int32)).toNatClampNeg) (xs (v1 + (2 : Int32)).toNatClampNeg) X2).bind fun q47 =>
  lt (q47.2) fun X48 =>
  bnd (v1 + (1 : Int32)) Ln <|
  bnd (v1 + (2 : Int32)) Ln <|
  (fX5_fold (xs (v1 + (1 : Int32)).toNatClampNeg) (xs (v1 + (2 : Int32)).toNatClampNeg) S3).bind fun q49 =>
  lt (q49.2) fun S50 =>
  if q47.1 = q49.1 then
    j4 (X48, S50)
  else
    some ((0 : Int32), (X48, S50))
theorem lw8_ok {Ln v : Nat} {xs : Nat → Int32} {X : M3} {S : M2} (h : R X S) (hv : v + 4 < Ln) (hL : Ln ≤ 320) : OKL (lw8 Ln xs (nI v) X S) := by
  obtain ⟨a, X', S', h1, h2, h3⟩ := k_fold h (xs (v + 1)) (xs (v + 2))
  refine ⟨X', S', fun j => ?_, h3⟩
  simp (disch := omega) only [lw8, q_ltn, q_lit, nI_add, q_bnd, q_cl, q_some, h1, h2, lg_self, if_true]
def lw9 (Ln : Nat) (xs : Nat → Int32) (v1 : Int32) (X2 : M3) (S3 : M2) (j4 : M3 × M2 → Option (Int32 × (M3 × M2))) : Option (Int32 × (M3 × M2)) :=
  bnd (v1 + (1 : Int32)) Ln <|
  bnd (v1 + (2 : Int32)) Ln <|
  (fX4_under (xs (v1 + (1 : Int32)).toNatClampNeg) (xs (v1 + (2 : Int32)).toNatClampNeg) X2).bind fun q53 =>
  lt (q53.2) fun X54 =>
  bnd (v1 + (1 : Int32)) Ln <|
  bnd (v1 + (2 : Int32)) Ln <|
  (fX5_under (xs (v1 + (1 : Int32)).toNatClampNeg) (xs (v1 + (2 : Int32)).toNatClampNeg) S3).bind fun q55 =>
  lt (q55.2) fun S56 =>
  if q53.1 = q55.1 then
    j4 (X54, S56)
  else
    some ((0 : Int32), (X54, S56))
theorem lw9_ok {Ln v : Nat} {xs : Nat → Int32} {X : M3} {S : M2} (h : R X S) (hv : v + 4 < Ln) (hL : Ln ≤ 320) : OKL (lw9 Ln xs (nI v) X S) := by
  obtain ⟨a, X', S', h1, h2, h3⟩ := k_under h (xs (v + 1)) (xs (v + 2))
  refine ⟨X', S', fun j => ?_, h3⟩
  simp (disch := omega) only [lw9, q_ltn, q_lit, nI_add, q_bnd, q_cl, q_some, h1, h2, lg_self, if_true]
def lw10 (Ln : Nat) (xs : Nat → Int32) (v1 : Int32) (X2 : M3) (S3 : M2) (j4 : M3 × M2 → Option (Int32 × (M3 × M2))) : Option (Int32 × (M3 × M2)) :=
  bnd (v1 + (1 : Int32)) Ln <|
  bnd (v1 + (2 : Int32)) Ln <|
  (fX4_swap (xs (v1 + (1 : Int32)).toNatClampNeg) (xs (v1 + (2 : Int32)).toNatClampNeg) X2).bind fun q59 =>
  lt (q59.2) fun X60 =>
  bnd (v1 + (1 : Int32)) Ln <|
  bnd (v1 + (2 : Int32)) Ln <|
  (fX5_swap (xs (v1 + (1 : Int32)).toNatClampNeg) (xs (v1 + (2 : Int32)).toNatClampNeg) S3).bind fun q61 =>
  lt (q61.2) fun S62 =>
  if q59.1 = q61.1 then
    j4 (X60, S62)
  else
    some ((0 : Int32), (X60, S62))
theorem lw10_ok {Ln v : Nat} {xs : Nat → Int32} {X : M3} {S : M2} (h : R X S) (hv : v + 4 < Ln) (hL : Ln ≤ 320) : OKL (lw10 Ln xs (nI v) X S) := by
  obtain ⟨a, X', S', h1, h2, h3⟩ := k_swap h (xs (v + 1)) (xs (v + 2))
  refine ⟨X', S', fun j => ?_, h3⟩
  simp (disch := omega) only [lw10, q_ltn, q_lit, nI_add, q_bnd, q_cl, q_some, h1, h2, lg_self, if_true]
def lw11 (Ln : Nat) (xs : Nat → Int32) (v1 : Int32) (X2 : M3) (S3 : M2) (j4 : M3 × M2 → Option (Int32 × (M3 × M2))) : Option (Int32 × (M3 × M2)) :=
  bnd (v1 + (1 : Int32)) Ln <|
  bnd (v1 + (2 : Int32)) Ln <|
  jn (α := Option (Int32 × (M3 × M2))) (β := Int32) (fun j65 =>
    if (xs (v1 + (2 : Int32)).toNatClampNeg) = 0 then
      j65 (0 : Int32)
    else
      j65 (1 : Int32)) (fun p67 => 
    (fX4_camphor (xs (v1 + (1 : Int32)).toNatClampNeg) p67 X2).bind fun q68 =>
    lt (q68.2) fun X69 =>
    bnd (v1 + (1 : Int32)) Ln <|
    bnd (v1 + (2 : Int32)) Ln <|
    jn (α := Option (Int32 × (M3 × M2))) (β := Int32) (fun j70 =>
      if (xs (v1 + (2 : Int32)).toNatClampNeg) = 0 then
        j70 (0 : Int32)
      else
        j70 (1 : Int32)) (fun p72 => 
      (fX5_camphor (xs (v1 + (1 : Int32)).toNatClampNeg) p72 S3).bind fun q73 =>
      lt (q73.2) fun S74 =>
      if q68.1 = q73.1 then
        j4 (X69, S74)
      else
        some ((0 : Int32), (X69, S74))))
theorem lw11_ok {Ln v : Nat} {xs : Nat → Int32} {X : M3} {S : M2} (h : R X S) (hv : v + 4 < Ln) (hL : Ln ≤ 320) : OKL (lw11 Ln xs (nI v) X S) := by
  by_cases e : xs (v + 2) = nI 0
  · obtain ⟨a, X', S', h1, h2, h3⟩ := k_camphor h (xs (v + 1)) false
    have h1' : fX4_camphor (xs (v + 1)) (nI 0) X = some (a, X') := h1
    have h2' : fX5_camphor (xs (v + 1)) (nI 0) S = some (a, S') := h2
    refine ⟨X', S', fun j => ?_, h3⟩
    simp (disch := omega) only [lw11, q_ltn, jn, q_lit, nI_add, q_bnd, q_cl, e, q_some, h1', h2', q_T, if_true]
  · obtain ⟨a, X', S', h1, h2, h3⟩ := k_camphor h (xs (v + 1)) true
    have h1' : fX4_camphor (xs (v + 1)) (nI 1) X = some (a, X') := h1
    have h2' : fX5_camphor (xs (v + 1)) (nI 1) S = some (a, S') := h2
    refine ⟨X', S', fun j => ?_, h3⟩
    simp (disch := omega) only [lw11, q_ltn, jn, q_lit, nI_add, q_bnd, q_cl, e, q_some, h1', h2', q_T, q_F, if_true, if_false]
def lw12 (Ln : Nat) (xs : Nat → Int32) (v1 : Int32) (X2 : M3) (S3 : M2) (j4 : M3 × M2 → Option (Int32 × (M3 × M2))) : Option (Int32 × (M3 × M2)) :=
  bnd (v1 + (1 : Int32)) Ln <|
  bnd (v1 + (2 : Int32)) Ln <|
  (fX4_patch (xs (v1 + (1 : Int32)).toNatClampNeg) (xs (v1 + (2 : Int32)).toNatClampNeg) X2).bind fun q77 =>
  lt (q77.2) fun X78 =>
  bnd (v1 + (1 : Int32)) Ln <|
  bnd (v1 + (2 : Int32)) Ln <|
  (fX5_patch (xs (v1 + (1 : Int32)).toNatClampNeg) (xs (v1 + (2 : Int32)).toNatClampNeg) S3).bind fun q79 =>
  lt (q79.2) fun S80 =>
  if q77.1 = q79.1 then
    j4 (X78, S80)
  else
    some ((0 : Int32), (X78, S80))
theorem lw12_ok {Ln v : Nat} {xs : Nat → Int32} {X : M3} {S : M2} (h : R X S) (hv : v + 4 < Ln) (hL : Ln ≤ 320) : OKL (lw12 Ln xs (nI v) X S) := by
  obtain ⟨a, X', S', h1, h2, h3⟩ := k_patch h (xs (v + 1)) (xs (v + 2))
  refine ⟨X', S', fun j => ?_, h3⟩
  simp (disch := omega) only [lw12, q_ltn, q_lit, nI_add, q_bnd, q_cl, q_some, h1, h2, lg_self, if_true]
def lw13 (Ln : Nat) (xs : Nat → Int32) (v1 : Int32) (X2 : M3) (S3 : M2) (j4 : M3 × M2 → Option (Int32 × (M3 × M2))) : Option (Int32 × (M3 × M2)) :=
  bnd (v1 + (1 : Int32)) Ln <|
  (fX4_prick (xs (v1 + (1 : Int32)).toNatClampNeg) X2).bind fun q83 =>
  lt (q83.2) fun X84 =>
  bnd (v1 + (1 : Int32)) Ln <|
  (fX5_prick (xs (v1 + (1 : Int32)).toNatClampNeg) S3).bind fun q85 =>
  lt (q85.2) fun S86 =>
  if q83.1 = q85.1 then
    j4 (X84, S86)
  else
    some ((0 : Int32), (X84, S86))
theorem lw13_ok {Ln v : Nat} {xs : Nat → Int32} {X : M3} {S : M2} (h : R X S) (hv : v + 4 < Ln) (hL : Ln ≤ 320) : OKL (lw13 Ln xs (nI v) X S) := by
  obtain ⟨a, X', S', h1, h2, h3⟩ := k_prick h (xs (v + 1))
  refine ⟨X', S', fun j => ?_, h3⟩
  simp (disch := omega) only [lw13, q_ltn, q_lit, nI_add, q_bnd, q_cl, q_some, h1, h2, lg_self, if_true]
def lw14 (Ln : Nat) (xs : Nat → Int32) (v1 : Int32) (X2 : M3) (S3 : M2) (j4 : M3 × M2 → Option (Int32 × (M3 × M2))) : Option (Int32 × (M3 × M2)) :=
  bnd (v1 + (1 : Int32)) Ln <|
  bnd (v1 + (2 : Int32)) Ln <|
  bnd (v1 + (3 : Int32)) Ln <|
  (fX4_alter (xs (v1 + (1 : Int32)).toNatClampNeg) (xs (v1 + (2 : Int32)).toNatClampNeg) (xs (v1 + (3 : Int32)).toNatClampNeg) X2).bind fun q89 =>
  lt (q89.2) fun X90 =>
  bnd (v1 + (1 : Int32)) Ln <|
  bnd (v1 + (2 : Int32)) Ln <|
  bnd (v1 + (3 : Int32)) Ln <|
  (fX5_alter (xs (v1 + (1 : Int32)).toNatClampNeg) (xs (v1 + (2 : Int32)).toNatClampNeg) (xs (v1 + (3 : Int32)).toNatClampNeg) S3).bind fun q91 =>
  lt (q91.2) fun S92 =>
  if q89.1 = q91.1 then
    j4 (X90, S92)
  else
    some ((0 : Int32), (X90, S92))
theorem lw14_ok {Ln v : Nat} {xs : Nat → Int32} {X : M3} {S : M2} (h : R X S) (hv : v + 4 < Ln) (hL : Ln ≤ 320) : OKL (lw14 Ln xs (nI v) X S) := by
  obtain ⟨a, X', S', h1, h2, h3⟩ := k_alter h (xs (v + 1)) (xs (v + 2)) (xs (v + 3))
  refine ⟨X', S', fun j => ?_, h3⟩
  simp (disch := omega) only [lw14, q_ltn, q_lit, nI_add, q_bnd, q_cl, q_some, h1, h2, lg_self, if_true]
def lw15 (Ln : Nat) (xs : Nat → Int32) (v1 : Int32) (X2 : M3) (S3 : M2) (j4 : M3 × M2 → Option (Int32 × (M3 × M2))) : Option (Int32 × (M3 × M2)) :=
  bnd (v1 + (1 : Int32)) Ln <|
  bnd (v1 + (2 : Int32)) Ln <|
  (fX4_set (xs (v1 + (1 : Int32)).toNatClampNeg) (xs (v1 + (2 : Int32)).toNatClampNeg) X2).bind fun q95 =>
  lt (q95.2) fun X96 =>
  bnd (v1 + (1 : Int32)) Ln <|
  bnd (v1 + (2 : Int32)) Ln <|
  (fX5_set (xs (v1 + (1 : Int32)).toNatClampNeg) (xs (v1 + (2 : Int32)).toNatClampNeg) S3).bind fun q97 =>
  lt (q97.2) fun S98 =>
  if q95.1 = q97.1 then
    j4 (X96, S98)
  else
    some ((0 : Int32), (X96, S98))
theorem lw15_ok {Ln v : Nat} {xs : Nat → Int32} {X : M3} {S : M2} (h : R X S) (hv : v + 4 < Ln) (hL : Ln ≤ 320) : OKL (lw15 Ln xs (nI v) X S) := by
  obtain ⟨a, X', S', h1, h2, h3⟩ := k_set h (xs (v + 1)) (xs (v + 2))
  refine ⟨X', S', fun j => ?_, h3⟩
  simp (disch := omega) only [lw15, q_ltn, q_lit, nI_add, q_bnd, q_cl, q_some, h1, h2, lg_self, if_true]
def lw16 (Ln : Nat) (xs : Nat → Int32) (v1 : Int32) (X2 : M3) (S3 : M2) (j4 : M3 × M2 → Option (Int32 × (M3 × M2))) : Option (Int32 × (M3 × M2)) :=
  bnd (v1 + (1 : Int32)) Ln <|
  (fX4_go (xs (v1 + (1 : Int32)).toNatClampNeg) X2).bind fun q101 =>
  lt (q101.2) fun X102 =>
  bnd (v1 + (1 : Int32)) Ln <|
  (fX5_go (xs (v1 + (1 : Int32)).toNatClampNeg) S3).bind fun q103 =>
  lt (q103.2) fun S104 =>
  if q101.1 = q103.1 then
    j4 (X102, S104)
  else
    some ((0 : Int32), (X102, S104))
theorem lw16_ok {Ln v : Nat} {xs : Nat → Int32} {X : M3} {S : M2} (h : R X S) (hv : v + 4 < Ln) (hL : Ln ≤ 320) : OKL (lw16 Ln xs (nI v) X S) := by
  obtain ⟨a, X', S', h1, h2, h3⟩ := k_go h (xs (v + 1))
  refine ⟨X', S', fun j => ?_, h3⟩
  simp (disch := omega) only [lw16, q_ltn, q_lit, nI_add, q_bnd, q_cl, q_some, h1, h2, lg_self, if_true]
def lw17 (Ln : Nat) (xs : Nat → Int32) (v1 : Int32) (X2 : M3) (S3 : M2) (j4 : M3 × M2 → Option (Int32 × (M3 × M2))) : Option (Int32 × (M3 × M2)) :=
  bnd (v1 + (1 : Int32)) Ln <|
  bnd (v1 + (2 : Int32)) Ln <|
  (fX4_ahead (xs (v1 + (1 : Int32)).toNatClampNeg) (xs (v1 + (2 : Int32)).toNatClampNeg) X2).bind fun q107 =>
  lt (q107.2) fun X108 =>
  bnd (v1 + (1 : Int32)) Ln <|
  bnd (v1 + (2 : Int32)) Ln <|
  (fX5_ahead (xs (v1 + (1 : Int32)).toNatClampNeg) (xs (v1 + (2 : Int32)).toNatClampNeg) S3).bind fun q109 =>
  lt (q109.2) fun S110 =>
  if q107.1 = q109.1 then
    j4 (X108, S110)
  else
    some ((0 : Int32), (X108, S110))
theorem lw17_ok {Ln v : Nat} {xs : Nat → Int32} {X : M3} {S : M2} (h : R X S) (hv : v + 4 < Ln) (hL : Ln ≤ 320) : OKL (lw17 Ln xs (nI v) X S) := by
  obtain ⟨a, X', S', h1, h2, h3⟩ := k_ahead h (xs (v + 1)) (xs (v + 2))
  refine ⟨X', S', fun j => ?_, h3⟩
  simp (disch := omega) only [lw17, q_ltn, q_lit, nI_add, q_bnd, q_cl, q_some, h1, h2, lg_self, if_true]
def lw18 (Ln : Nat) (xs : Nat → Int32) (v1 : Int32) (X2 : M3) (S3 : M2) (j4 : M3 × M2 → Option (Int32 × (M3 × M2))) : Option (Int32 × (M3 × M2)) :=
  bnd (v1 + (1 : Int32)) Ln <|
  (fX4_when (xs (v1 + (1 : Int32)).toNatClampNeg) X2).bind fun q113 =>
  lt (q113.2) fun X114 =>
  bnd (v1 + (1 : Int32)) Ln <|
  (fX5_when (xs (v1 + (1 : Int32)).toNatClampNeg) S3).bind fun q115 =>
  lt (q115.2) fun S116 =>
  if q113.1 = q115.1 then
    j4 (X114, S116)
  else
    some ((0 : Int32), (X114, S116))
theorem lw18_ok {Ln v : Nat} {xs : Nat → Int32} {X : M3} {S : M2} (h : R X S) (hv : v + 4 < Ln) (hL : Ln ≤ 320) : OKL (lw18 Ln xs (nI v) X S) := by
  obtain ⟨a, X', S', h1, h2, h3⟩ := k_when h (xs (v + 1))
  refine ⟨X', S', fun j => ?_, h3⟩
  simp (disch := omega) only [lw18, q_ltn, q_lit, nI_add, q_bnd, q_cl, q_some, h1, h2, lg_self, if_true]
def lw19 (Ln : Nat) (xs : Nat → Int32) (v1 : Int32) (X2 : M3) (S3 : M2) (j4 : M3 × M2 → Option (Int32 × (M3 × M2))) : Option (Int32 × (M3 × M2)) :=
  bnd (v1 + (1 : Int32)) Ln <|
  (fX4_eats (xs (v1 + (1 : Int32)).toNatClampNeg) X2).bind fun q119 =>
  lt (q119.2) fun X120 =>
  bnd (v1 + (1 : Int32)) Ln <|
  (fX5_eats (xs (v1 + (1 : Int32)).toNatClampNeg) S3).bind fun q121 =>
  lt (q121.2) fun S122 =>
  if q119.1 = q121.1 then
    j4 (X120, S122)
  else
    some ((0 : Int32), (X120, S122))
theorem lw19_ok {Ln v : Nat} {xs : Nat → Int32} {X : M3} {S : M2} (h : R X S) (hv : v + 4 < Ln) (hL : Ln ≤ 320) : OKL (lw19 Ln xs (nI v) X S) := by
  obtain ⟨a, X', S', h1, h2, h3⟩ := k_eats h (xs (v + 1))
  refine ⟨X', S', fun j => ?_, h3⟩
  simp (disch := omega) only [lw19, q_ltn, q_lit, nI_add, q_bnd, q_cl, q_some, h1, h2, lg_self, if_true]
def lw20 (Ln : Nat) (xs : Nat → Int32) (v1 : Int32) (X2 : M3) (S3 : M2) (j4 : M3 × M2 → Option (Int32 × (M3 × M2))) : Option (Int32 × (M3 × M2)) :=
  bnd (v1 + (1 : Int32)) Ln <|
  (fX4_duty (xs (v1 + (1 : Int32)).toNatClampNeg) X2).bind fun q125 =>
  lt (q125.2) fun X126 =>
  bnd (v1 + (1 : Int32)) Ln <|
  (fX5_duty (xs (v1 + (1 : Int32)).toNatClampNeg) S3).bind fun q127 =>
  lt (q127.2) fun S128 =>
  if q125.1 = q127.1 then
    j4 (X126, S128)
  else
    some ((0 : Int32), (X126, S128))
theorem lw20_ok {Ln v : Nat} {xs : Nat → Int32} {X : M3} {S : M2} (h : R X S) (hv : v + 4 < Ln) (hL : Ln ≤ 320) : OKL (lw20 Ln xs (nI v) X S) := by
  obtain ⟨a, X', S', h1, h2, h3⟩ := k_duty h (xs (v + 1))
  refine ⟨X', S', fun j => ?_, h3⟩
  simp (disch := omega) only [lw20, q_ltn, q_lit, nI_add, q_bnd, q_cl, q_some, h1, h2, lg_self, if_true]
def lw21 (Ln : Nat) (xs : Nat → Int32) (v1 : Int32) (X2 : M3) (S3 : M2) (j4 : M3 × M2 → Option (Int32 × (M3 × M2))) : Option (Int32 × (M3 × M2)) :=
  bnd (v1 + (1 : Int32)) Ln <|
  (fX4_best (xs (v1 + (1 : Int32)).toNatClampNeg) X2).bind fun q131 =>
  lt (q131.2) fun X132 =>
  bnd (v1 + (1 : Int32)) Ln <|
  (fX5_best (xs (v1 + (1 : Int32)).toNatClampNeg) S3).bind fun q133 =>
  lt (q133.2) fun S134 =>
  if q131.1 = q133.1 then
    j4 (X132, S134)
  else
    some ((0 : Int32), (X132, S134))
theorem lw21_ok {Ln v : Nat} {xs : Nat → Int32} {X : M3} {S : M2} (h : R X S) (hv : v + 4 < Ln) (hL : Ln ≤ 320) : OKL (lw21 Ln xs (nI v) X S) := by
  obtain ⟨a, X', S', h1, h2, h3⟩ := k_best h (xs (v + 1))
  refine ⟨X', S', fun j => ?_, h3⟩
  simp (disch := omega) only [lw21, q_ltn, q_lit, nI_add, q_bnd, q_cl, q_some, h1, h2, lg_self, if_true]
def lw22 (Ln : Nat) (xs : Nat → Int32) (v1 : Int32) (X2 : M3) (S3 : M2) (j4 : M3 × M2 → Option (Int32 × (M3 × M2))) : Option (Int32 × (M3 × M2)) :=
  bnd (v1 + (1 : Int32)) Ln <|
  (fX4_guard (xs (v1 + (1 : Int32)).toNatClampNeg) X2).bind fun q137 =>
  lt (q137.2) fun X138 =>
  bnd (v1 + (1 : Int32)) Ln <|
  (fX5_guard (xs (v1 + (1 : Int32)).toNatClampNeg) S3).bind fun q139 =>
  lt (q139.2) fun S140 =>
  if q137.1 = q139.1 then
    j4 (X138, S140)
  else
    some ((0 : Int32), (X138, S140))
theorem lw22_ok {Ln v : Nat} {xs : Nat → Int32} {X : M3} {S : M2} (h : R X S) (hv : v + 4 < Ln) (hL : Ln ≤ 320) : OKL (lw22 Ln xs (nI v) X S) := by
  obtain ⟨a, X', S', h1, h2, h3⟩ := k_guard h (xs (v + 1))
  refine ⟨X', S', fun j => ?_, h3⟩
  simp (disch := omega) only [lw22, q_ltn, q_lit, nI_add, q_bnd, q_cl, q_some, h1, h2, lg_self, if_true]
def lw23 (Ln : Nat) (xs : Nat → Int32) (v1 : Int32) (X2 : M3) (S3 : M2) (j4 : M3 × M2 → Option (Int32 × (M3 × M2))) : Option (Int32 × (M3 × M2)) :=
  bnd (v1 + (1 : Int32)) Ln <|
  bnd (v1 + (2 : Int32)) Ln <|
  (fX4_send (xs (v1 + (1 : Int32)).toNatClampNeg) (xs (v1 + (2 : Int32)).toNatClampNeg) X2).bind fun q143 =>
  lt (q143.2) fun X144 =>
  bnd (v1 + (1 : Int32)) Ln <|
  bnd (v1 + (2 : Int32)) Ln <|
  (fX5_send (xs (v1 + (1 : Int32)).toNatClampNeg) (xs (v1 + (2 : Int32)).toNatClampNeg) S3).bind fun q145 =>
  lt (q145.2) fun S146 =>
  if q143.1 = q145.1 then
    j4 (X144, S146)
  else
    some ((0 : Int32), (X144, S146))
theorem lw23_ok {Ln v : Nat} {xs : Nat → Int32} {X : M3} {S : M2} (h : R X S) (hv : v + 4 < Ln) (hL : Ln ≤ 320) : OKL (lw23 Ln xs (nI v) X S) := by
  obtain ⟨a, X', S', h1, h2, h3⟩ := k_send h (xs (v + 1)) (xs (v + 2))
  refine ⟨X', S', fun j => ?_, h3⟩
  simp (disch := omega) only [lw23, q_ltn, q_lit, nI_add, q_bnd, q_cl, q_some, h1, h2, lg_self, if_true]
def lw24 (Ln : Nat) (xs : Nat → Int32) (v1 : Int32) (X2 : M3) (S3 : M2) (j4 : M3 × M2 → Option (Int32 × (M3 × M2))) : Option (Int32 × (M3 × M2)) :=
  bnd (v1 + (1 : Int32)) Ln <|
  (fX4_raise (xs (v1 + (1 : Int32)).toNatClampNeg) X2).bind fun q149 =>
  lt (q149.2) fun X150 =>
  bnd (v1 + (1 : Int32)) Ln <|
  (fX5_raise (xs (v1 + (1 : Int32)).toNatClampNeg) S3).bind fun q151 =>
  lt (q151.2) fun S152 =>
  if q149.1 = q151.1 then
    j4 (X150, S152)
  else
    some ((0 : Int32), (X150, S152))
theorem lw24_ok {Ln v : Nat} {xs : Nat → Int32} {X : M3} {S : M2} (h : R X S) (hv : v + 4 < Ln) (hL : Ln ≤ 320) : OKL (lw24 Ln xs (nI v) X S) := by
  obtain ⟨a, X', S', h1, h2, h3⟩ := k_raise h (xs (v + 1))
  refine ⟨X', S', fun j => ?_, h3⟩
  simp (disch := omega) only [lw24, q_ltn, q_lit, nI_add, q_bnd, q_cl, q_some, h1, h2, lg_self, if_true]
def lw25 (Ln : Nat) (xs : Nat → Int32) (v1 : Int32) (X2 : M3) (S3 : M2) (j4 : M3 × M2 → Option (Int32 × (M3 × M2))) : Option (Int32 × (M3 × M2)) :=
  bnd (v1 + (1 : Int32)) Ln <|
  bnd (v1 + (2 : Int32)) Ln <|
  (fX4_mean (xs (v1 + (1 : Int32)).toNatClampNeg) (xs (v1 + (2 : Int32)).toNatClampNeg) X2).bind fun q155 =>
  lt (q155.2) fun X156 =>
  bnd (v1 + (1 : Int32)) Ln <|
  bnd (v1 + (2 : Int32)) Ln <|
  (fX5_mean (xs (v1 + (1 : Int32)).toNatClampNeg) (xs (v1 + (2 : Int32)).toNatClampNeg) S3).bind fun q157 =>
  lt (q157.2) fun S158 =>
  if (lg_cmp q155.1 q157.1) = 0 then
    j4 (X156, S158)
  else
    some ((0 : Int32), (X156, S158))
theorem lw25_ok {Ln v : Nat} {xs : Nat → Int32} {X : M3} {S : M2} (h : R X S) (hv : v + 4 < Ln) (hL : Ln ≤ 320) : OKL (lw25 Ln xs (nI v) X S) := by
  obtain ⟨a, X', S', h1, h2, h3⟩ := k_mean h (xs (v + 1)) (xs (v + 2))
  refine ⟨X', S', fun j => ?_, h3⟩
  simp (disch := omega) only [lw25, q_ltn, q_lit, nI_add, q_bnd, q_cl, q_some, h1, h2, lg_self, if_true]
def lw26 (Ln : Nat) (xs : Nat → Int32) (v1 : Int32) (X2 : M3) (S3 : M2) (j4 : M3 × M2 → Option (Int32 × (M3 × M2))) : Option (Int32 × (M3 × M2)) :=
  bnd (v1 + (1 : Int32)) Ln <|
  bnd (v1 + (2 : Int32)) Ln <|
  bnd (v1 + (3 : Int32)) Ln <|
  (fX4_luck (xs (v1 + (1 : Int32)).toNatClampNeg) (xs (v1 + (2 : Int32)).toNatClampNeg) (xs (v1 + (3 : Int32)).toNatClampNeg) X2).bind fun q161 =>
  lt (q161.2) fun X162 =>
  bnd (v1 + (1 : Int32)) Ln <|
  bnd (v1 + (2 : Int32)) Ln <|
  bnd (v1 + (3 : Int32)) Ln <|
  (fX5_luck (xs (v1 + (1 : Int32)).toNatClampNeg) (xs (v1 + (2 : Int32)).toNatClampNeg) (xs (v1 + (3 : Int32)).toNatClampNeg) S3).bind fun q163 =>
  lt (q163.2) fun S164 =>
  if (lg_cmp q161.1 q163.1) = 0 then
    j4 (X162, S164)
  else
    some ((0 : Int32), (X162, S164))
theorem lw26_ok {Ln v : Nat} {xs : Nat → Int32} {X : M3} {S : M2} (h : R X S) (hv : v + 4 < Ln) (hL : Ln ≤ 320) : OKL (lw26 Ln xs (nI v) X S) := by
  obtain ⟨a, X', S', h1, h2, h3⟩ := k_luck h (xs (v + 1)) (xs (v + 2)) (xs (v + 3))
  refine ⟨X', S', fun j => ?_, h3⟩
  simp (disch := omega) only [lw26, q_ltn, q_lit, nI_add, q_bnd, q_cl, q_some, h1, h2, lg_self, if_true]
def lw27 (Ln : Nat) (xs : Nat → Int32) (v1 : Int32) (X2 : M3) (S3 : M2) (j4 : M3 × M2 → Option (Int32 × (M3 × M2))) : Option (Int32 × (M3 × M2)) :=
  bnd (v1 + (1 : Int32)) Ln <|
  bnd (v1 + (2 : Int32)) Ln <|
  (fX4_see (xs (v1 + (1 : Int32)).toNatClampNeg) (xs (v1 + (2 : Int32)).toNatClampNeg) X2).bind fun q167 =>
  lt (q167.2) fun X168 =>
  bnd (v1 + (1 : Int32)) Ln <|
  bnd (v1 + (2 : Int32)) Ln <|
  (fX5_see (xs (v1 + (1 : Int32)).toNatClampNeg) (xs (v1 + (2 : Int32)).toNatClampNeg) S3).bind fun q169 =>
  lt (q169.2) fun S170 =>
  if q167.1 = q169.1 then
    j4 (X168, S170)
  else
    some ((0 : Int32), (X168, S170))
theorem lw27_ok {Ln v : Nat} {xs : Nat → Int32} {X : M3} {S : M2} (h : R X S) (hv : v + 4 < Ln) (hL : Ln ≤ 320) : OKL (lw27 Ln xs (nI v) X S) := by
  obtain ⟨a, X', S', h1, h2, h3⟩ := k_see h (xs (v + 1)) (xs (v + 2))
  refine ⟨X', S', fun j => ?_, h3⟩
  simp (disch := omega) only [lw27, q_ltn, q_lit, nI_add, q_bnd, q_cl, q_some, h1, h2, lg_self, if_true]
def lw28 (Ln : Nat) (xs : Nat → Int32) (v1 : Int32) (X2 : M3) (S3 : M2) (j4 : M3 × M2 → Option (Int32 × (M3 × M2))) : Option (Int32 × (M3 × M2)) :=
  bnd (v1 + (1 : Int32)) Ln <|
  (fX4_forget (xs (v1 + (1 : Int32)).toNatClampNeg) X2).bind fun q173 =>
  lt (q173.2) fun X174 =>
  bnd (v1 + (1 : Int32)) Ln <|
  (fX5_forget (xs (v1 + (1 : Int32)).toNatClampNeg) S3).bind fun q175 =>
  lt (q175.2) fun S176 =>
  if q173.1 = q175.1 then
    j4 (X174, S176)
  else
    some ((0 : Int32), (X174, S176))
theorem lw28_ok {Ln v : Nat} {xs : Nat → Int32} {X : M3} {S : M2} (h : R X S) (hv : v + 4 < Ln) (hL : Ln ≤ 320) : OKL (lw28 Ln xs (nI v) X S) := by
  obtain ⟨a, X', S', h1, h2, h3⟩ := k_forget h (xs (v + 1))
  refine ⟨X', S', fun j => ?_, h3⟩
  simp (disch := omega) only [lw28, q_ltn, q_lit, nI_add, q_bnd, q_cl, q_some, h1, h2, lg_self, if_true]
def lw29 (Ln : Nat) (xs : Nat → Int32) (v1 : Int32) (X2 : M3) (S3 : M2) (j4 : M3 × M2 → Option (Int32 × (M3 × M2))) : Option (Int32 × (M3 × M2)) :=
  bnd (v1 + (1 : Int32)) Ln <|
  (fX4_tastes (xs (v1 + (1 : Int32)).toNatClampNeg) X2).bind fun q179 =>
  lt (q179.2) fun X180 =>
  bnd (v1 + (1 : Int32)) Ln <|
  (fX5_tastes (xs (v1 + (1 : Int32)).toNatClampNeg) S3).bind fun q181 =>
  lt (q181.2) fun S182 =>
  if q179.1 = q181.1 then
    j4 (X180, S182)
  else
    some ((0 : Int32), (X180, S182))
theorem lw29_ok {Ln v : Nat} {xs : Nat → Int32} {X : M3} {S : M2} (h : R X S) (hv : v + 4 < Ln) (hL : Ln ≤ 320) : OKL (lw29 Ln xs (nI v) X S) := by
  obtain ⟨a, X', S', h1, h2, h3⟩ := k_tastes h (xs (v + 1))
  refine ⟨X', S', fun j => ?_, h3⟩
  simp (disch := omega) only [lw29, q_ltn, q_lit, nI_add, q_bnd, q_cl, q_some, h1, h2, lg_self, if_true]
def lw30 (Ln : Nat) (xs : Nat → Int32) (v1 : Int32) (X2 : M3) (S3 : M2) (j4 : M3 × M2 → Option (Int32 × (M3 × M2))) : Option (Int32 × (M3 × M2)) :=
  (fX4_bought  X2).bind fun q185 =>
  lt (q185.2) fun X186 =>
  (fX5_bought  S3).bind fun q187 =>
  lt (q187.2) fun S188 =>
  if q185.1 = q187.1 then
    j4 (X186, S188)
  else
    some ((0 : Int32), (X186, S188))
theorem lw30_ok {Ln v : Nat} {xs : Nat → Int32} {X : M3} {S : M2} (h : R X S) (hv : v + 4 < Ln) (hL : Ln ≤ 320) : OKL (lw30 Ln xs (nI v) X S) := by
  obtain ⟨a, X', S', h1, h2, h3⟩ := k_bought h 
  refine ⟨X', S', fun j => ?_, h3⟩
  simp (disch := omega) only [lw30, q_ltn, q_lit, nI_add, q_bnd, q_cl, q_some, h1, h2, lg_self, if_true]
def lw31 (Ln : Nat) (xs : Nat → Int32) (v1 : Int32) (X2 : M3) (S3 : M2) (j4 : M3 × M2 → Option (Int32 × (M3 × M2))) : Option (Int32 × (M3 × M2)) :=
  bnd (v1 + (1 : Int32)) Ln <|
  (fX4_pricked (xs (v1 + (1 : Int32)).toNatClampNeg) X2).bind fun q191 =>
  lt (q191.2) fun X192 =>
  bnd (v1 + (1 : Int32)) Ln <|
  (fX5_pricked (xs (v1 + (1 : Int32)).toNatClampNeg) S3).bind fun q193 =>
  lt (q193.2) fun S194 =>
  if q191.1 = q193.1 then
    j4 (X192, S194)
  else
    some ((0 : Int32), (X192, S194))
theorem lw31_ok {Ln v : Nat} {xs : Nat → Int32} {X : M3} {S : M2} (h : R X S) (hv : v + 4 < Ln) (hL : Ln ≤ 320) : OKL (lw31 Ln xs (nI v) X S) := by
  obtain ⟨a, X', S', h1, h2, h3⟩ := k_pricked h (xs (v + 1))
  refine ⟨X', S', fun j => ?_, h3⟩
  simp (disch := omega) only [lw31, q_ltn, q_lit, nI_add, q_bnd, q_cl, q_some, h1, h2, lg_self, if_true]
def lw32 (Ln : Nat) (xs : Nat → Int32) (v1 : Int32) (X2 : M3) (S3 : M2) (j4 : M3 × M2 → Option (Int32 × (M3 × M2))) : Option (Int32 × (M3 × M2)) :=
  bnd (v1 + (1 : Int32)) Ln <|
  (fX4_lain (xs (v1 + (1 : Int32)).toNatClampNeg) X2).bind fun q197 =>
  lt (q197.2) fun X198 =>
  bnd (v1 + (1 : Int32)) Ln <|
  (fX5_lain (xs (v1 + (1 : Int32)).toNatClampNeg) S3).bind fun q199 =>
  lt (q199.2) fun S200 =>
  if q197.1 = q199.1 then
    j4 (X198, S200)
  else
    some ((0 : Int32), (X198, S200))
theorem lw32_ok {Ln v : Nat} {xs : Nat → Int32} {X : M3} {S : M2} (h : R X S) (hv : v + 4 < Ln) (hL : Ln ≤ 320) : OKL (lw32 Ln xs (nI v) X S) := by
  obtain ⟨a, X', S', h1, h2, h3⟩ := k_lain h (xs (v + 1))
  refine ⟨X', S', fun j => ?_, h3⟩
  simp (disch := omega) only [lw32, q_ltn, q_lit, nI_add, q_bnd, q_cl, q_some, h1, h2, lg_self, if_true]
def lw33 (Ln : Nat) (xs : Nat → Int32) (v1 : Int32) (X2 : M3) (S3 : M2) (j4 : M3 × M2 → Option (Int32 × (M3 × M2))) : Option (Int32 × (M3 × M2)) :=
  bnd (v1 + (1 : Int32)) Ln <|
  bnd (v1 + (2 : Int32)) Ln <|
  bnd (v1 + (3 : Int32)) Ln <|
  (fX4_drift (xs (v1 + (1 : Int32)).toNatClampNeg) (xs (v1 + (2 : Int32)).toNatClampNeg) (xs (v1 + (3 : Int32)).toNatClampNeg) X2).bind fun q203 =>
  lt (q203.2) fun X204 =>
  bnd (v1 + (1 : Int32)) Ln <|
  bnd (v1 + (2 : Int32)) Ln <|
  bnd (v1 + (3 : Int32)) Ln <|
  (fX5_drift (xs (v1 + (1 : Int32)).toNatClampNeg) (xs (v1 + (2 : Int32)).toNatClampNeg) (xs (v1 + (3 : Int32)).toNatClampNeg) S3).bind fun q205 =>
  lt (q205.2) fun S206 =>
  if q203.1 = q205.1 then
    j4 (X204, S206)
  else
    some ((0 : Int32), (X204, S206))
theorem lw33_ok {Ln v : Nat} {xs : Nat → Int32} {X : M3} {S : M2} (h : R X S) (hv : v + 4 < Ln) (hL : Ln ≤ 320) : OKL (lw33 Ln xs (nI v) X S) := by
  obtain ⟨a, X', S', h1, h2, h3⟩ := k_drift h (xs (v + 1)) (xs (v + 2)) (xs (v + 3))
  refine ⟨X', S', fun j => ?_, h3⟩
  simp (disch := omega) only [lw33, q_ltn, q_lit, nI_add, q_bnd, q_cl, q_some, h1, h2, lg_self, if_true]
def lw34 (Ln : Nat) (xs : Nat → Int32) (v1 : Int32) (X2 : M3) (S3 : M2) (j4 : M3 × M2 → Option (Int32 × (M3 × M2))) : Option (Int32 × (M3 × M2)) :=
  bnd (v1 + (1 : Int32)) Ln <|
  (fX4_keep (xs (v1 + (1 : Int32)).toNatClampNeg) X2).bind fun q209 =>
  lt (q209.2) fun X210 =>
  bnd (v1 + (1 : Int32)) Ln <|
  (fX5_keep (xs (v1 + (1 : Int32)).toNatClampNeg) S3).bind fun q211 =>
  lt (q211.2) fun S212 =>
  if q209.1 = q211.1 then
    j4 (X210, S212)
  else
    some ((0 : Int32), (X210, S212))
theorem lw34_ok {Ln v : Nat} {xs : Nat → Int32} {X : M3} {S : M2} (h : R X S) (hv : v + 4 < Ln) (hL : Ln ≤ 320) : OKL (lw34 Ln xs (nI v) X S) := by
  obtain ⟨a, X', S', h1, h2, h3⟩ := k_keep h (xs (v + 1))
  refine ⟨X', S', fun j => ?_, h3⟩
  simp (disch := omega) only [lw34, q_ltn, q_lit, nI_add, q_bnd, q_cl, q_some, h1, h2, lg_self, if_true]
def lw35 (Ln : Nat) (xs : Nat → Int32) (v1 : Int32) (X2 : M3) (S3 : M2) (j4 : M3 × M2 → Option (Int32 × (M3 × M2))) : Option (Int32 × (M3 × M2)) :=
  bnd (v1 + (1 : Int32)) Ln <|
  (fX4_back (xs (v1 + (1 : Int32)).toNatClampNeg) X2).bind fun q215 =>
  lt (q215.2) fun X216 =>
  bnd (v1 + (1 : Int32)) Ln <|
  (fX5_back (xs (v1 + (1 : Int32)).toNatClampNeg) S3).bind fun q217 =>
  lt (q217.2) fun S218 =>
  if q215.1 = q217.1 then
    j4 (X216, S218)
  else
    some ((0 : Int32), (X216, S218))
theorem lw35_ok {Ln v : Nat} {xs : Nat → Int32} {X : M3} {S : M2} (h : R X S) (hv : v + 4 < Ln) (hL : Ln ≤ 320) : OKL (lw35 Ln xs (nI v) X S) := by
  obtain ⟨a, X', S', h1, h2, h3⟩ := k_back h (xs (v + 1))
  refine ⟨X', S', fun j => ?_, h3⟩
  simp (disch := omega) only [lw35, q_ltn, q_lit, nI_add, q_bnd, q_cl, q_some, h1, h2, lg_self, if_true]
def lw36 (Ln : Nat) (xs : Nat → Int32) (v1 : Int32) (X2 : M3) (S3 : M2) (j4 : M3 × M2 → Option (Int32 × (M3 × M2))) : Option (Int32 × (M3 × M2)) :=
  bnd (v1 + (1 : Int32)) Ln <|
  bnd (v1 + (2 : Int32)) Ln <|
  bnd (v1 + (3 : Int32)) Ln <|
  (fX4_sheet (xs (v1 + (1 : Int32)).toNatClampNeg) (xs (v1 + (2 : Int32)).toNatClampNeg) (xs (v1 + (3 : Int32)).toNatClampNeg) X2).bind fun q221 =>
  lt (q221.2) fun X222 =>
  bnd (v1 + (1 : Int32)) Ln <|
  bnd (v1 + (2 : Int32)) Ln <|
  bnd (v1 + (3 : Int32)) Ln <|
  (fX5_sheet (xs (v1 + (1 : Int32)).toNatClampNeg) (xs (v1 + (2 : Int32)).toNatClampNeg) (xs (v1 + (3 : Int32)).toNatClampNeg) S3).bind fun q223 =>
  lt (q223.2) fun S224 =>
  if q221.1 = q223.1 then
    j4 (X222, S224)
  else
    some ((0 : Int32), (X222, S224))
theorem lw36_ok {Ln v : Nat} {xs : Nat → Int32} {X : M3} {S : M2} (h : R X S) (hv : v + 4 < Ln) (hL : Ln ≤ 320) : OKL (lw36 Ln xs (nI v) X S) := by
  obtain ⟨a, X', S', h1, h2, h3⟩ := k_sheet h (xs (v + 1)) (xs (v + 2)) (xs (v + 3))
  refine ⟨X', S', fun j => ?_, h3⟩
  simp (disch := omega) only [lw36, q_ltn, q_lit, nI_add, q_bnd, q_cl, q_some, h1, h2, lg_self, if_true]
def lw37 (Ln : Nat) (xs : Nat → Int32) (v1 : Int32) (X2 : M3) (S3 : M2) (j4 : M3 × M2 → Option (Int32 × (M3 × M2))) : Option (Int32 × (M3 × M2)) :=
  bnd (v1 + (1 : Int32)) Ln <|
  bnd (v1 + (2 : Int32)) Ln <|
  bnd (v1 + (3 : Int32)) Ln <|
  (fX4_lay (xs (v1 + (1 : Int32)).toNatClampNeg) (xs (v1 + (2 : Int32)).toNatClampNeg) (xs (v1 + (3 : Int32)).toNatClampNeg) X2).bind fun q227 =>
  lt (q227.2) fun X228 =>
  bnd (v1 + (1 : Int32)) Ln <|
  bnd (v1 + (2 : Int32)) Ln <|
  bnd (v1 + (3 : Int32)) Ln <|
  (fX5_lay (xs (v1 + (1 : Int32)).toNatClampNeg) (xs (v1 + (2 : Int32)).toNatClampNeg) (xs (v1 + (3 : Int32)).toNatClampNeg) S3).bind fun q229 =>
  lt (q229.2) fun S230 =>
  if q227.1 = q229.1 then
    j4 (X228, S230)
  else
    some ((0 : Int32), (X228, S230))
theorem lw37_ok {Ln v : Nat} {xs : Nat → Int32} {X : M3} {S : M2} (h : R X S) (hv : v + 4 < Ln) (hL : Ln ≤ 320) : OKL (lw37 Ln xs (nI v) X S) := by
  obtain ⟨a, X', S', h1, h2, h3⟩ := k_lay h (xs (v + 1)) (xs (v + 2)) (xs (v + 3))
  refine ⟨X', S', fun j => ?_, h3⟩
  simp (disch := omega) only [lw37, q_ltn, q_lit, nI_add, q_bnd, q_cl, q_some, h1, h2, lg_self, if_true]
def lw38 (Ln : Nat) (xs : Nat → Int32) (v1 : Int32) (X2 : M3) (S3 : M2) (j4 : M3 × M2 → Option (Int32 × (M3 × M2))) : Option (Int32 × (M3 × M2)) :=
  bnd (v1 + (1 : Int32)) Ln <|
  bnd (v1 + (2 : Int32)) Ln <|
  bnd (v1 + (3 : Int32)) Ln <|
  bnd (v1 + (4 : Int32)) Ln <|
  (fX4_read (xs (v1 + (1 : Int32)).toNatClampNeg) (xs (v1 + (2 : Int32)).toNatClampNeg) (xs (v1 + (3 : Int32)).toNatClampNeg) (xs (v1 + (4 : Int32)).toNatClampNeg) X2).bind fun q233 =>
  lt (q233.2) fun X234 =>
  bnd (v1 + (1 : Int32)) Ln <|
  bnd (v1 + (2 : Int32)) Ln <|
  bnd (v1 + (3 : Int32)) Ln <|
  bnd (v1 + (4 : Int32)) Ln <|
  (fX5_read (xs (v1 + (1 : Int32)).toNatClampNeg) (xs (v1 + (2 : Int32)).toNatClampNeg) (xs (v1 + (3 : Int32)).toNatClampNeg) (xs (v1 + (4 : Int32)).toNatClampNeg) S3).bind fun q235 =>
  lt (q235.2) fun S236 =>
  if q233.1 = q235.1 then
    j4 (X234, S236)
  else
    some ((0 : Int32), (X234, S236))
theorem lw38_ok {Ln v : Nat} {xs : Nat → Int32} {X : M3} {S : M2} (h : R X S) (hv : v + 4 < Ln) (hL : Ln ≤ 320) : OKL (lw38 Ln xs (nI v) X S) := by
  obtain ⟨a, X', S', h1, h2, h3⟩ := k_read h (xs (v + 1)) (xs (v + 2)) (xs (v + 3)) (xs (v + 4))
  refine ⟨X', S', fun j => ?_, h3⟩
  simp (disch := omega) only [lw38, q_ltn, q_lit, nI_add, q_bnd, q_cl, q_some, h1, h2, lg_self, if_true]
def lw39 (Ln : Nat) (xs : Nat → Int32) (v1 : Int32) (X2 : M3) (S3 : M2) (j4 : M3 × M2 → Option (Int32 × (M3 × M2))) : Option (Int32 × (M3 × M2)) :=
  (fX4_torn  X2).bind fun r239 =>
  (fX5_torn  S3).bind fun r240 =>
  if r239 = r240 then
    j4 (X2, S3)
  else
    some ((0 : Int32), (X2, S3))
theorem lw39_ok {Ln v : Nat} {xs : Nat → Int32} {X : M3} {S : M2} (h : R X S) (hv : v + 4 < Ln) (hL : Ln ≤ 320) : OKL (lw39 Ln xs (nI v) X S) := by
  obtain ⟨a, h1, h2⟩ := k_torn h 
  refine ⟨X, S, fun j => ?_, h⟩
  simp (disch := omega) only [lw39, q_ltn, q_lit, nI_add, q_bnd, q_cl, q_some, h1, h2, lg_self, if_true]
def lw40 (Ln : Nat) (xs : Nat → Int32) (v1 : Int32) (X2 : M3) (S3 : M2) (j4 : M3 × M2 → Option (Int32 × (M3 × M2))) : Option (Int32 × (M3 × M2)) :=
  bnd (v1 + (1 : Int32)) Ln <|
  (fX4_count (xs (v1 + (1 : Int32)).toNatClampNeg) X2).bind fun r243 =>
  bnd (v1 + (1 : Int32)) Ln <|
  (fX5_count (xs (v1 + (1 : Int32)).toNatClampNeg) S3).bind fun q244 =>
  lt (q244.2) fun S245 =>
  if r243 = q244.1 then
    j4 (X2, S245)
  else
    some ((0 : Int32), (X2, S245))
theorem lw40_ok {Ln v : Nat} {xs : Nat → Int32} {X : M3} {S : M2} (h : R X S) (hv : v + 4 < Ln) (hL : Ln ≤ 320) : OKL (lw40 Ln xs (nI v) X S) := by
  obtain ⟨a, S', h1, h2, h3⟩ := k_count h (xs (v + 1))
  refine ⟨X, S', fun j => ?_, h3⟩
  simp (disch := omega) only [lw40, q_ltn, q_lit, nI_add, q_bnd, q_cl, q_some, h1, h2, lg_self, if_true]
def lwa (Ln : Nat) (xs : Nat → Int32) (v1 : Int32) (X2 : M3) (S3 : M2) (j4 : M3 × M2 → Option (Int32 × (M3 × M2))) : Option (Int32 × (M3 × M2)) :=
  if ((xs v1.toNatClampNeg) &&& (63 : Int32)) = 0 then lw0 Ln xs v1 X2 S3 j4 else
  if ((xs v1.toNatClampNeg) &&& (63 : Int32)) = 1 then lw1 Ln xs v1 X2 S3 j4 else
  if ((xs v1.toNatClampNeg) &&& (63 : Int32)) = 2 then lw2 Ln xs v1 X2 S3 j4 else
  if ((xs v1.toNatClampNeg) &&& (63 : Int32)) = 3 then lw3 Ln xs v1 X2 S3 j4 else
  if ((xs v1.toNatClampNeg) &&& (63 : Int32)) = 4 then lw4 Ln xs v1 X2 S3 j4 else
  if ((xs v1.toNatClampNeg) &&& (63 : Int32)) = 5 then lw5 Ln xs v1 X2 S3 j4 else
  if ((xs v1.toNatClampNeg) &&& (63 : Int32)) = 6 then lw6 Ln xs v1 X2 S3 j4 else
  if ((xs v1.toNatClampNeg) &&& (63 : Int32)) = 7 then lw7 Ln xs v1 X2 S3 j4 else
  if ((xs v1.toNatClampNeg) &&& (63 : Int32)) = 8 then lw8 Ln xs v1 X2 S3 j4 else
  if ((xs v1.toNatClampNeg) &&& (63 : Int32)) = 9 then lw9 Ln xs v1 X2 S3 j4 else
  if ((xs v1.toNatClampNeg) &&& (63 : Int32)) = 10 then lw10 Ln xs v1 X2 S3 j4 else
  if ((xs v1.toNatClampNeg) &&& (63 : Int32)) = 11 then lw11 Ln xs v1 X2 S3 j4 else
  if ((xs v1.toNatClampNeg) &&& (63 : Int32)) = 12 then lw12 Ln xs v1 X2 S3 j4 else
  if ((xs v1.toNatClampNeg) &&& (63 : Int32)) = 13 then lw13 Ln xs v1 X2 S3 j4 else
  if ((xs v1.toNatClampNeg) &&& (63 : Int32)) = 14 then lw14 Ln xs v1 X2 S3 j4 else
  if ((xs v1.toNatClampNeg) &&& (63 : Int32)) = 15 then lw15 Ln xs v1 X2 S3 j4 else
  if ((xs v1.toNatClampNeg) &&& (63 : Int32)) = 16 then lw16 Ln xs v1 X2 S3 j4 else
  if ((xs v1.toNatClampNeg) &&& (63 : Int32)) = 17 then lw17 Ln xs v1 X2 S3 j4 else
  if ((xs v1.toNatClampNeg) &&& (63 : Int32)) = 18 then lw18 Ln xs v1 X2 S3 j4 else
  if ((xs v1.toNatClampNeg) &&& (63 : Int32)) = 19 then lw19 Ln xs v1 X2 S3 j4 else
  if ((xs v1.toNatClampNeg) &&& (63 : Int32)) = 20 then lw20 Ln xs v1 X2 S3 j4 else
  if ((xs v1.toNatClampNeg) &&& (63 : Int32)) = 21 then lw21 Ln xs v1 X2 S3 j4 else
  if ((xs v1.toNatClampNeg) &&& (63 : Int32)) = 22 then lw22 Ln xs v1 X2 S3 j4 else
  if ((xs v1.toNatClampNeg) &&& (63 : Int32)) = 23 then lw23 Ln xs v1 X2 S3 j4 else
  if ((xs v1.toNatClampNeg) &&& (63 : Int32)) = 24 then lw24 Ln xs v1 X2 S3 j4 else
  if ((xs v1.toNatClampNeg) &&& (63 : Int32)) = 25 then lw25 Ln xs v1 X2 S3 j4 else
  if ((xs v1.toNatClampNeg) &&& (63 : Int32)) = 26 then lw26 Ln xs v1 X2 S3 j4 else
  if ((xs v1.toNatClampNeg) &&& (63 : Int32)) = 27 then lw27 Ln xs v1 X2 S3 j4 else
  if ((xs v1.toNatClampNeg) &&& (63 : Int32)) = 28 then lw28 Ln xs v1 X2 S3 j4 else
  if ((xs v1.toNatClampNeg) &&& (63 : Int32)) = 29 then lw29 Ln xs v1 X2 S3 j4 else
  if ((xs v1.toNatClampNeg) &&& (63 : Int32)) = 30 then lw30 Ln xs v1 X2 S3 j4 else
  if ((xs v1.toNatClampNeg) &&& (63 : Int32)) = 31 then lw31 Ln xs v1 X2 S3 j4 else
  if ((xs v1.toNatClampNeg) &&& (63 : Int32)) = 32 then lw32 Ln xs v1 X2 S3 j4 else
  if ((xs v1.toNatClampNeg) &&& (63 : Int32)) = 33 then lw33 Ln xs v1 X2 S3 j4 else
  if ((xs v1.toNatClampNeg) &&& (63 : Int32)) = 34 then lw34 Ln xs v1 X2 S3 j4 else
  if ((xs v1.toNatClampNeg) &&& (63 : Int32)) = 35 then lw35 Ln xs v1 X2 S3 j4 else
  if ((xs v1.toNatClampNeg) &&& (63 : Int32)) = 36 then lw36 Ln xs v1 X2 S3 j4 else
  if ((xs v1.toNatClampNeg) &&& (63 : Int32)) = 37 then lw37 Ln xs v1 X2 S3 j4 else
  if ((xs v1.toNatClampNeg) &&& (63 : Int32)) = 38 then lw38 Ln xs v1 X2 S3 j4 else
  if ((xs v1.toNatClampNeg) &&& (63 : Int32)) = 39 then lw39 Ln xs v1 X2 S3 j4 else
  if ((xs v1.toNatClampNeg) &&& (63 : Int32)) = 40 then lw40 Ln xs v1 X2 S3 j4 else
  j4 (X2, S3)
theorem lwa_ok {Ln v : Nat} {xs : Nat → Int32} {X : M3} {S : M2} (h : R X S) (hv : v + 4 < Ln) (hL : Ln ≤ 320) : OKL (lwa Ln xs (nI v) X S) :=
  ok_if (lw0_ok h hv hL) (ok_if (lw1_ok h hv hL) (ok_if (lw2_ok h hv hL) (ok_if (lw3_ok h hv hL) (ok_if (lw4_ok h hv hL) (ok_if (lw5_ok h hv hL) (ok_if (lw6_ok h hv hL) (ok_if (lw7_ok h hv hL) (ok_if (lw8_ok h hv hL) (ok_if (lw9_ok h hv hL) (ok_if (lw10_ok h hv hL) (ok_if (lw11_ok h hv hL) (ok_if (lw12_ok h hv hL) (ok_if (lw13_ok h hv hL) (ok_if (lw14_ok h hv hL) (ok_if (lw15_ok h hv hL) (ok_if (lw16_ok h hv hL) (ok_if (lw17_ok h hv hL) (ok_if (lw18_ok h hv hL) (ok_if (lw19_ok h hv hL) (ok_if (lw20_ok h hv hL) (ok_if (lw21_ok h hv hL) (ok_if (lw22_ok h hv hL) (ok_if (lw23_ok h hv hL) (ok_if (lw24_ok h hv hL) (ok_if (lw25_ok h hv hL) (ok_if (lw26_ok h hv hL) (ok_if (lw27_ok h hv hL) (ok_if (lw28_ok h hv hL) (ok_if (lw29_ok h hv hL) (ok_if (lw30_ok h hv hL) (ok_if (lw31_ok h hv hL) (ok_if (lw32_ok h hv hL) (ok_if (lw33_ok h hv hL) (ok_if (lw34_ok h hv hL) (ok_if (lw35_ok h hv hL) (ok_if (lw36_ok h hv hL) (ok_if (lw37_ok h hv hL) (ok_if (lw38_ok h hv hL) (ok_if (lw39_ok h hv hL) (ok_if (lw40_ok h hv hL) (ok_id h)))))))))))))))))))))))))))))))))))))))))
theorem law_eq (Ln : Nat) (xs : Nat → Int32) (X : M3) (S : M2) (kk : (M3 × M2) → Option (Int32 × (M3 × M2))) (f : Nat) (v1 : Int32) (X2 : M3) (S3 : M2) : fL_law_L18 Ln xs X S kk (f + 1) v1 X2 S3 = if ((nI Ln) - (5 : Int32)) < v1 then kk (X2, S3) else bnd v1 Ln <| jn (α := Option (Int32 × (M3 × M2))) (β := M3 × M2) (fun j4 => lwa Ln xs v1 X2 S3 j4) (fun p247 => lt (v1 + (5 : Int32)) fun x248 => fL_law_L18 Ln xs X S kk f x248 p247.1 p247.2) := rfl
theorem law_L {Ln : Nat} {xs : Nat → Int32} {X0 : M3} {S0 : M2} (hL : Ln ≤ 320) : ∀ (f v : Nat) (X : M3) (S : M2), R X S → v ≤ 330 → 330 < v + 5 * f → ∃ qf, fL_law_L18 Ln xs X0 S0 (fun p250 => some ((1 : Int32), (p250.1, p250.2))) f (nI v) X S = some (1, qf)
  | 0, v, X, S, h, hv, hf => absurd hf (by omega)
  | f + 1, v, X, S, h, hv, hf => by
    rw [law_eq]
    have hc : (nI Ln - (5 : Int32) < nI v) = (Ln < v + 5) := by
      show (nI Ln - nI 5 < nI v) = (Ln < v + 5)
      rw [Int32.lt_iff_toInt_lt, pk_sub_toInt (by omega) (by omega), nI_toInt (by omega)]
      exact propext ⟨fun _ => by omega, fun _ => by omega⟩
    by_cases e : Ln < v + 5
    · rw [if_pos (by rw [hc]; exact e)]
      exact ⟨_, rfl⟩
    · rw [if_neg (by rw [hc]; exact e), q_bnd (by omega), q_jnn]
      obtain ⟨X', S', h1, h2⟩ := lwa_ok (xs := xs) h (show v + 4 < Ln by omega) hL
      rw [h1, q_ltn]
      show ∃ qf, fL_law_L18 Ln xs X0 S0 (fun p250 => some ((1 : Int32), (p250.1, p250.2))) f (nI v + (5 : Int32)) X' S' = some (1, qf)
      rw [show nI v + (5 : Int32) = nI (v + 5) from nI_add v 5]
      exact law_L hL f (v + 5) X' S' h2 (by omega) (by omega)
/-- class and model at their start -/
theorem R_0 : R s0_X4 s1_X5 := by
  refine ⟨⟨N0, B0, ⟨wf0, by decide, ⟨⟨rfl, rfl, rfl, rfl, rfl, rfl, rfl⟩, fun b hb => absurd hb (Nat.not_lt_zero _), fun b hb => absurd hb (Nat.not_lt_zero _), fun b hb => absurd hb (Nat.not_lt_zero _), fun k hk => ⟨by rcases wb_cases hk with rfl | rfl | rfl <;> rfl, fun i b hb => absurd hb (by rw [B0, List.getElem?_nil]; exact fun h => nomatch h)⟩⟩, ⟨⟨?_, ?_, ?_, ?_⟩, fun b hb => absurd hb (Nat.not_lt_zero _), fun b hb => absurd hb (Nat.not_lt_zero _), fun b hb => absurd hb (Nat.not_lt_zero _), fun k hk i b hb => absurd hb (by rw [B0, List.getElem?_nil]; exact fun h => nomatch h)⟩, ?_, ?_⟩, 0, by decide, rfl, fun k hk => ⟨?_, fun hb => absurd hb (by rw [Nat.zero_testBit]; decide)⟩⟩, ⟨⟨0, by decide, rfl, ?_, fun i hi => absurd hi (Nat.not_lt_zero i)⟩, ?_⟩, fun k hk => Or.inl ⟨?_, ?_⟩, ?_⟩
  · show s1_X5 0 46 = nI 0
    decide +kernel
  · show s1_X5 0 47 = nI 1
    decide +kernel
  · show s1_X5 0 48 = nI 0
    decide +kernel
  · show s1_X5 0 49 = nI 0
    decide +kernel
  · show s1_X5 3 0 = nI 0
    decide +kernel
  · show s1_X5 4 0 = nI 0
    decide +kernel
  · rw [Nat.zero_testBit]
    rcases (by omega : k = 0 ∨ k = 1) with rfl | rfl
    · show s1_X5 2 0 = nI 0
      decide +kernel
    · show s1_X5 2 1 = nI 0
      decide +kernel
  · show s1_X5 12 0 = nI 0
    decide +kernel
  · show nI 0 = s1_X5 17 0
    decide +kernel
  · rcases (by omega : k = 0 ∨ k = 1 ∨ k = 2 ∨ k = 3) with rfl | rfl | rfl | rfl <;> rfl
  · rcases (by omega : k = 0 ∨ k = 1 ∨ k = 2 ∨ k = 3) with rfl | rfl | rfl | rfl <;> decide +kernel
  · show nI 0 = s1_X5 23 0
    decide +kernel
/-- the pure law answers 1 on every script -/
theorem law_ok (L : Nat) (hL : L ≤ 320) (xs : Nat → Int32) : ∃ qf, fL_law L xs s0_X4 s1_X5 = some (1, qf) := law_L hL 400 0 s0_X4 s1_X5 R_0 (by omega) (by omega)
end
