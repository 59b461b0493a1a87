def fX0_add_30 (a0 : Nat) (S : mT) : Option (mT) :=
  some S
def fX0_add (a0 : Nat) (v1 : Int32) (S : mT) : Option (mT) :=
  grd (kO a0 0 && true) <|
  if (280 : Int32) ≤ (S.1 a0 2) then
    fX0_add_30 a0 S
  else
    grd (kI (a0 + 1) (S.1 a0 2) && (kO a0 0 && (kO a0 0 && true))) <|
    bnd (sI S (a0 + 1) (mIx (S.1 a0 2)) v1) fun S1 =>
    grd (kO a0 0 && (kO a0 0 && true)) <|
    bnd (sI S1 a0 2 ((S1.1 a0 2) + (1 : Int32))) fun S2 =>
    fX0_add_30 a0 S2
def fX0_clear (a0 : Nat) (S : mT) : Option (mT) :=
  grd (kO a0 0 && true) <|
  bnd (sI S a0 2 (0 : Int32)) fun S1 =>
  grd (kO a0 0 && true) <|
  bnd (sI S1 a0 3 (0 : Int32)) fun S2 =>
  grd (mFit .boolean (0 : Int32) && (kO a0 0 && true)) <|
  bnd (sI S2 a0 4 (0 : Int32)) fun S3 =>
  some S3
def fX10_forget (S : mT) : Option (mT) :=
  grd (mFit .boolean (0 : Int32) && (kO 120 10 && true)) <|
  bnd (sI S 120 14 (0 : Int32)) fun S1 =>
  some S1
def fX2_emptyBoxes_2 : Nat → Int32 → mT → Option (mT)
  | 0, _, _ => none
  | k + 1, v1, S =>
    if (3 : Int32) ≤ v1 then
      some S
    else
      grd (kB 84 v1 && (kO 37 2 && true)) <|
      bnd (sI S 84 (mIx v1) (kN 84 (0 : Int32))) fun S1 =>
      bnd (v1 + (1 : Int32)) fun x2 =>
      fX2_emptyBoxes_2 k x2 S1
def fX2_emptyBoxes (S : mT) : Option (mT) :=
  fX2_emptyBoxes_2 mK (0 : Int32) S
def fX3_forget (S : mT) : Option (mT) :=
  grd (mFit .boolean (0 : Int32) && (kO 140 3 && true)) <|
  bnd (sI S 140 8 (0 : Int32)) fun S1 =>
  some S1
def fX4_isDigitAt_35 (s0 : Int32) (S : mT) : Option (Int32 × mT) :=
  grd (mFit .boolean s0) (some (s0, S))
def fX4_isDigitAt_34 (S : mT) : Option (Int32 × mT) :=
  fX4_isDigitAt_35 (0 : Int32) S
def fX4_isDigitAt (v1 : Int32) (S : mT) : Option (Int32 × mT) :=
  grd (kO 1 4 && true) <|
  if (S.1 1 1) ≤ v1 then
    fX4_isDigitAt_34 S
  else
    grd (kB 2 v1 && (kO 1 4 && true)) <|
    if (S.1 2 (mIx v1)) < (48 : Int32) then
      fX4_isDigitAt_34 S
    else
      grd (kB 2 v1 && (kO 1 4 && true)) <|
      if (57 : Int32) < (S.1 2 (mIx v1)) then
        fX4_isDigitAt_34 S
      else
        fX4_isDigitAt_35 (1 : Int32) S
def fX4_isLetterAt_35 (s0 : Int32) (S : mT) : Option (Int32 × mT) :=
  grd (mFit .boolean s0) (some (s0, S))
def fX4_isLetterAt_34 (S : mT) : Option (Int32 × mT) :=
  fX4_isLetterAt_35 (0 : Int32) S
def fX4_isLetterAt (v1 : Int32) (S : mT) : Option (Int32 × mT) :=
  grd (kO 1 4 && true) <|
  if (S.1 1 1) ≤ v1 then
    fX4_isLetterAt_34 S
  else
    grd (kB 2 v1 && (kO 1 4 && true)) <|
    if (S.1 2 (mIx v1)) < (97 : Int32) then
      fX4_isLetterAt_34 S
    else
      grd (kB 2 v1 && (kO 1 4 && true)) <|
      if (122 : Int32) < (S.1 2 (mIx v1)) then
        fX4_isLetterAt_34 S
      else
        fX4_isLetterAt_35 (1 : Int32) S
def fX4_refuse_20 (S : mT) : Option (mT) :=
  grd (kO 1 4 && true) <|
  bnd (sI S 1 4 (0 : Int32)) fun S3 =>
  some S3
def fX4_refuse (v1 : Int32) (S : mT) : Option (mT) :=
  grd (kO 1 4 && true) <|
  if (S.1 1 2) = 0 then
    grd (kO 1 4 && true) <|
    bnd (sI S 1 2 v1) fun S1 =>
    grd (kO 1 4 && (kO 1 4 && true)) <|
    bnd (sI S1 1 3 (S1.1 1 5)) fun S2 =>
    fX4_refuse_20 S2
  else
    fX4_refuse_20 S
def fX4_scanNumber_98 (S : mT) : Option (mT) :=
  some S
def fX4_scanNumber_93 (S : mT) : Option (mT) :=
  bndV (fX4_refuse (1 : Int32) S) fun S9 =>
  fX4_scanNumber_98 S9
def fX4_scanNumber_69 (S : mT) : Option (mT) :=
  grd (kO 1 4 && (kO 1 4 && true)) <|
  if (4 : Int32) < ((S.1 1 6) - (S.1 1 5)) then
    fX4_scanNumber_93 S
  else
    grd (kO 1 4 && true) <|
    bndC (fX4_isLetterAt (S.1 1 6) S) fun x8 S7 =>
    if x8 = 0 then
      fX4_scanNumber_98 S7
    else
      fX4_scanNumber_93 S7
def fX4_scanNumber_10 : Nat → mT → Option (mT)
  | 0, _ => none
  | k + 1, S =>
    grd (kO 1 4 && (kO 1 4 && true)) <|
    if (S.1 1 1) ≤ (S.1 1 6) then
      fX4_scanNumber_69 S
    else
      grd (kO 1 4 && true) <|
      bndC (fX4_isDigitAt (S.1 1 6) S) fun x4 S3 =>
      if x4 = 0 then
        fX4_scanNumber_69 S3
      else
        grd (kB 2 (S3.1 1 6) && (kO 1 4 && (kO 1 4 && (kO 1 4 && true)))) <|
        grd (kO 1 4 && true) <|
        bnd (sI S3 1 7 (((S3.1 1 7) * (10 : Int32)) + ((S3.1 2 (mIx (S3.1 1 6))) - (48 : Int32)))) fun S5 =>
        grd (kO 1 4 && (kO 1 4 && true)) <|
        bnd (sI S5 1 6 ((S5.1 1 6) + (1 : Int32))) fun S6 =>
        fX4_scanNumber_10 k S6
def fX4_scanNumber (S : mT) : Option (mT) :=
  grd (kO 1 4 && true) <|
  bnd (sI S 1 4 (2 : Int32)) fun S1 =>
  grd (kO 1 4 && true) <|
  bnd (sI S1 1 7 (0 : Int32)) fun S2 =>
  fX4_scanNumber_10 mK S2
def fX4_scanSign_164 (S : mT) : Option (mT) :=
  some S
def fX4_scanSign (S : mT) : Option (mT) :=
  grd (kO 1 4 && true) <|
  bnd (sI S 1 4 (3 : Int32)) fun S1 =>
  grd (mFit .char (((S1.1 2 (mIx (S1.1 1 6))) &&& (255 : Int32)).toUInt32 % 65536).toInt32 && (kO 1 4 && (kB 2 (S1.1 1 6) && (kO 1 4 && (kO 1 4 && true))))) <|
  bnd (sI S1 1 9 (((S1.1 2 (mIx (S1.1 1 6))) &&& (255 : Int32)).toUInt32 % 65536).toInt32) fun S2 =>
  grd (kO 1 4 && (kO 1 4 && true)) <|
  bnd (sI S2 1 6 ((S2.1 1 6) + (1 : Int32))) fun S3 =>
  grd (kO 1 4 && true) <|
  if (S3.1 1 9) = (37 : Int32) then
    fX4_scanSign_164 S3
  else
    if (S3.1 1 9) = (38 : Int32) then
      bndV (fX4_refuse (1 : Int32) S3) fun S19 =>
      fX4_scanSign_164 S19
    else
      if (S3.1 1 9) = (39 : Int32) then
        bndV (fX4_refuse (1 : Int32) S3) fun S18 =>
        fX4_scanSign_164 S18
      else
        if (S3.1 1 9) = (40 : Int32) then
          fX4_scanSign_164 S3
        else
          if (S3.1 1 9) = (41 : Int32) then
            fX4_scanSign_164 S3
          else
            if (S3.1 1 9) = (42 : Int32) then
              fX4_scanSign_164 S3
            else
              if (S3.1 1 9) = (43 : Int32) then
                fX4_scanSign_164 S3
              else
                if (S3.1 1 9) = (44 : Int32) then
                  bndV (fX4_refuse (1 : Int32) S3) fun S17 =>
                  fX4_scanSign_164 S17
                else
                  if (S3.1 1 9) = (45 : Int32) then
                    fX4_scanSign_164 S3
                  else
                    if (S3.1 1 9) = (46 : Int32) then
                      bndV (fX4_refuse (1 : Int32) S3) fun S16 =>
                      fX4_scanSign_164 S16
                    else
                      if (S3.1 1 9) = (47 : Int32) then
                        fX4_scanSign_164 S3
                      else
                        if (S3.1 1 9) = (48 : Int32) then
                          bndV (fX4_refuse (1 : Int32) S3) fun S15 =>
                          fX4_scanSign_164 S15
                        else
                          if (S3.1 1 9) = (49 : Int32) then
                            bndV (fX4_refuse (1 : Int32) S3) fun S14 =>
                            fX4_scanSign_164 S14
                          else
                            if (S3.1 1 9) = (50 : Int32) then
                              bndV (fX4_refuse (1 : Int32) S3) fun S13 =>
                              fX4_scanSign_164 S13
                            else
                              if (S3.1 1 9) = (51 : Int32) then
                                bndV (fX4_refuse (1 : Int32) S3) fun S12 =>
                                fX4_scanSign_164 S12
                              else
                                if (S3.1 1 9) = (52 : Int32) then
                                  bndV (fX4_refuse (1 : Int32) S3) fun S11 =>
                                  fX4_scanSign_164 S11
                                else
                                  if (S3.1 1 9) = (53 : Int32) then
                                    bndV (fX4_refuse (1 : Int32) S3) fun S10 =>
                                    fX4_scanSign_164 S10
                                  else
                                    if (S3.1 1 9) = (54 : Int32) then
                                      bndV (fX4_refuse (1 : Int32) S3) fun S9 =>
                                      fX4_scanSign_164 S9
                                    else
                                      if (S3.1 1 9) = (55 : Int32) then
                                        bndV (fX4_refuse (1 : Int32) S3) fun S8 =>
                                        fX4_scanSign_164 S8
                                      else
                                        if (S3.1 1 9) = (56 : Int32) then
                                          bndV (fX4_refuse (1 : Int32) S3) fun S7 =>
                                          fX4_scanSign_164 S7
                                        else
                                          if (S3.1 1 9) = (57 : Int32) then
                                            bndV (fX4_refuse (1 : Int32) S3) fun S6 =>
                                            fX4_scanSign_164 S6
                                          else
                                            if (S3.1 1 9) = (58 : Int32) then
                                              bndV (fX4_refuse (1 : Int32) S3) fun S5 =>
                                              fX4_scanSign_164 S5
                                            else
                                              if (S3.1 1 9) = (59 : Int32) then
                                                fX4_scanSign_164 S3
                                              else
                                                if (S3.1 1 9) = (60 : Int32) then
                                                  fX4_scanSign_164 S3
                                                else
                                                  if (S3.1 1 9) = (61 : Int32) then
                                                    fX4_scanSign_164 S3
                                                  else
                                                    if (S3.1 1 9) = (62 : Int32) then
                                                      fX4_scanSign_164 S3
                                                    else
                                                      bndV (fX4_refuse (1 : Int32) S3) fun S4 =>
                                                      fX4_scanSign_164 S4
def fX4_scanWord_92 (S : mT) : Option (mT) :=
  some S
def fX4_scanWord_73 (S : mT) : Option (mT) :=
  grd (kO 1 4 && (kO 1 4 && true)) <|
  if ((S.1 1 6) - (S.1 1 5)) ≤ (8 : Int32) then
    fX4_scanWord_92 S
  else
    bndV (fX4_refuse (1 : Int32) S) fun S7 =>
    fX4_scanWord_92 S7
def fX4_scanWord_10 : Nat → mT → Option (mT)
  | 0, _ => none
  | k + 1, S =>
    grd (kO 1 4 && (kO 1 4 && true)) <|
    if (S.1 1 1) ≤ (S.1 1 6) then
      fX4_scanWord_73 S
    else
      grd (kO 1 4 && true) <|
      bndC (fX4_isLetterAt (S.1 1 6) S) fun x4 S3 =>
      if x4 = 0 then
        fX4_scanWord_73 S3
      else
        grd (kB 2 (S3.1 1 6) && (kO 1 4 && (kO 1 4 && (kO 1 4 && true)))) <|
        grd (kO 1 4 && true) <|
        bnd (sJ S3 1 8 (((S3.2 1 8) * (32 : Int64)) + ((((S3.1 2 (mIx (S3.1 1 6))) - (97 : Int32)) + (1 : Int32)).toInt64))) fun S5 =>
        grd (kO 1 4 && (kO 1 4 && true)) <|
        bnd (sI S5 1 6 ((S5.1 1 6) + (1 : Int32))) fun S6 =>
        fX4_scanWord_10 k S6
def fX4_scanWord (S : mT) : Option (mT) :=
  grd (kO 1 4 && true) <|
  bnd (sI S 1 4 (1 : Int32)) fun S1 =>
  grd (kO 1 4 && true) <|
  bnd (sJ S1 1 8 (0 : Int64)) fun S2 =>
  fX4_scanWord_10 mK S2
def fX4_advance_47 (rc8 : mT → Option (mT)) (S : mT) : Option (mT) :=
  grd (kO 1 4 && (kO 1 4 && true)) <|
  bnd (sI S 1 6 ((S.1 1 6) + (1 : Int32))) fun S10 =>
  rc8 S10
def fX4_advance_127 (S : mT) : Option (mT) :=
  some S
def fX4_advance_60 (S : mT) : Option (mT) :=
  grd (kO 1 4 && (kO 1 4 && true)) <|
  bnd (sI S 1 5 (S.1 1 6)) fun S1 =>
  grd (kO 1 4 && (kO 1 4 && true)) <|
  if (S1.1 1 6) < (S1.1 1 1) then
    grd (kO 1 4 && true) <|
    bndC (fX4_isLetterAt (S1.1 1 6) S1) fun x3 S2 =>
    if x3 = 0 then
      grd (kO 1 4 && true) <|
      bndC (fX4_isDigitAt (S2.1 1 6) S2) fun x5 S4 =>
      if x5 = 0 then
        bndV (fX4_scanSign S4) fun S6 =>
        fX4_advance_127 S6
      else
        bndV (fX4_scanNumber S4) fun S7 =>
        fX4_advance_127 S7
    else
      bndV (fX4_scanWord S2) fun S8 =>
      fX4_advance_127 S8
  else
    grd (kO 1 4 && true) <|
    bnd (sI S1 1 4 (0 : Int32)) fun S9 =>
    fX4_advance_127 S9
def fX4_advance_8 : Nat → mT → Option (mT)
  | 0, _ => none
  | k + 1, S =>
    grd (kO 1 4 && (kO 1 4 && true)) <|
    if (S.1 1 1) ≤ (S.1 1 6) then
      fX4_advance_60 S
    else
      grd (kB 2 (S.1 1 6) && (kO 1 4 && (kO 1 4 && true))) <|
      if (S.1 2 (mIx (S.1 1 6))) = (32 : Int32) then
        fX4_advance_47 (fX4_advance_8 k) S
      else
        grd (kB 2 (S.1 1 6) && (kO 1 4 && (kO 1 4 && true))) <|
        if (S.1 2 (mIx (S.1 1 6))) = (10 : Int32) then
          fX4_advance_47 (fX4_advance_8 k) S
        else
          fX4_advance_60 S
def fX4_advance (S : mT) : Option (mT) :=
  grd (kO 1 4 && true) <|
  if (S.1 1 2) = 0 then
    fX4_advance_8 mK S
  else
    some S
def fX4_isWord_26 (a1 : Nat) (S : mT) : Option (Int32 × mT) :=
  some ((0 : Int32), S)
def fX4_isWord_30 (a1 : Nat) : Nat → Int32 → Int32 → mT → Option (Int32 × mT)
  | 0, _, _, _ => none
  | k + 1, v2, v3, S =>
    if v2 ≤ v3 then
      some ((1 : Int32), S)
    else
      grd (kB 2 ((S.1 1 5) + v3) && (kO 1 4 && (kO 1 4 && true))) <|
      grd (mIn v3 (strN a1) && true) <|
      bnd (strC a1 v3) fun x2 =>
      if (S.1 2 (mIx ((S.1 1 5) + v3))) = x2 then
        bnd (v3 + (1 : Int32)) fun x3 =>
        fX4_isWord_30 a1 k v2 x3 S
      else
        some ((0 : Int32), S)
def fX4_isWord (a1 : Nat) (S : mT) : Option (Int32 × mT) :=
  bnd (strL a1) fun x1 =>
  grd (kO 1 4 && true) <|
  if (S.1 1 4) = (1 : Int32) then
    grd (kO 1 4 && (kO 1 4 && true)) <|
    if ((S.1 1 6) - (S.1 1 5)) = x1 then
      fX4_isWord_30 a1 mK x1 (0 : Int32) S
    else
      fX4_isWord_26 a1 S
  else
    fX4_isWord_26 a1 S
def fX4_lawNamed (a1 : Nat) (S : mT) : Option (Nat × mT) :=
  bndC (fX4_isWord 900005 S) fun x2 S1 =>
  if x2 = 0 then
    bndC (fX4_isWord 900006 S1) fun x4 S3 =>
    if x4 = 0 then
      bndC (fX4_isWord 900007 S3) fun x6 S5 =>
      if x6 = 0 then
        some (NUL, S5)
      else
        grd (kO a1 8 && true) <|
        some ((a1 + 12), S5)
    else
      grd (kO a1 8 && true) <|
      some ((a1 + 9), S3)
  else
    grd (kO a1 8 && true) <|
    some ((a1 + 6), S1)
def fX4_takeTold_48 (a1 : Nat) (v3 : Int32) (S : mT) : Option (Int32 × mT) :=
  bndV (fX4_advance S) fun S8 =>
  some (v3, S8)
def fX4_takeTold_13 (a1 : Nat) (v2 : Int32) (S : mT) : Option (Int32 × mT) :=
  bndV (fX4_advance S) fun S4 =>
  grd (kO 1 4 && true) <|
  bnd (S4.1 1 7) fun x5 =>
  grd (kO 1 4 && true) <|
  if (S4.1 1 4) = (2 : Int32) then
    if x5 ≤ v2 then
      fX4_takeTold_48 a1 x5 S4
    else
      bndV (fX4_refuse (4 : Int32) S4) fun S6 =>
      fX4_takeTold_48 a1 x5 S6
  else
    bndV (fX4_refuse (2 : Int32) S4) fun S7 =>
    fX4_takeTold_48 a1 x5 S7
def fX4_takeTold (a1 : Nat) (v2 : Int32) (S : mT) : Option (Int32 × mT) :=
  bndC (fX4_isWord a1 S) fun x2 S1 =>
  if x2 = 0 then
    bndV (fX4_refuse (2 : Int32) S1) fun S3 =>
    fX4_takeTold_13 a1 v2 S3
  else
    fX4_takeTold_13 a1 v2 S1
def fX4_readDraw_12 (a1 : Nat) (S : mT) : Option (mT) :=
  grd (mFit .boolean (1 : Int32) && (kO a1 8 && true)) <|
  bnd (sI S a1 11 (1 : Int32)) fun S2 =>
  bndC (fX4_takeTold 900008 (999 : Int32) S2) fun x4 S3 =>
  grd (kO a1 8 && true) <|
  bnd (sI S3 a1 10 x4) fun S5 =>
  some S5
def fX4_readDraw (a1 : Nat) (S : mT) : Option (mT) :=
  grd (kO a1 8 && true) <|
  if (S.1 a1 11) = 0 then
    fX4_readDraw_12 a1 S
  else
    bndV (fX4_refuse (2 : Int32) S) fun S1 =>
    fX4_readDraw_12 a1 S1
def fX4_standsForItself_140 (s0 : Int32) (S : mT) : Option (Int32 × mT) :=
  grd (mFit .boolean s0) (some (s0, S))
def fX4_standsForItself_135 (S : mT) : Option (Int32 × mT) :=
  fX4_standsForItself_140 (1 : Int32) S
def fX4_standsForItself (S : mT) : Option (Int32 × mT) :=
  bndC (fX4_isWord 900000 S) fun x2 S1 =>
  if x2 = 0 then
    bndC (fX4_isWord 900001 S1) fun x4 S3 =>
    if x4 = 0 then
      bndC (fX4_isWord 900002 S3) fun x6 S5 =>
      if x6 = 0 then
        bndC (fX4_isWord 900003 S5) fun x8 S7 =>
        if x8 = 0 then
          bndC (fX4_isWord 900004 S7) fun x10 S9 =>
          if x10 = 0 then
            bndC (fX4_isWord 900005 S9) fun x12 S11 =>
            if x12 = 0 then
              bndC (fX4_isWord 900006 S11) fun x14 S13 =>
              if x14 = 0 then
                bndC (fX4_isWord 900007 S13) fun x16 S15 =>
                if x16 = 0 then
                  bndC (fX4_isWord 900008 S15) fun x18 S17 =>
                  if x18 = 0 then
                    bndC (fX4_isWord 900009 S17) fun x20 S19 =>
                    if x20 = 0 then
                      bndC (fX4_isWord 900010 S19) fun x22 S21 =>
                      if x22 = 0 then
                        bndC (fX4_isWord 900011 S21) fun x24 S23 =>
                        if x24 = 0 then
                          bndC (fX4_isWord 900012 S23) fun x26 S25 =>
                          if x26 = 0 then
                            bndC (fX4_isWord 900013 S25) fun x28 S27 =>
                            if x28 = 0 then
                              bndC (fX4_isWord 900014 S27) fun x30 S29 =>
                              if x30 = 0 then
                                fX4_standsForItself_140 (0 : Int32) S29
                              else
                                fX4_standsForItself_135 S29
                            else
                              fX4_standsForItself_135 S27
                          else
                            fX4_standsForItself_135 S25
                        else
                          fX4_standsForItself_135 S23
                      else
                        fX4_standsForItself_135 S21
                    else
                      fX4_standsForItself_135 S19
                  else
                    fX4_standsForItself_135 S17
                else
                  fX4_standsForItself_135 S15
              else
                fX4_standsForItself_135 S13
            else
              fX4_standsForItself_135 S11
          else
            fX4_standsForItself_135 S9
        else
          fX4_standsForItself_135 S7
      else
        fX4_standsForItself_135 S5
    else
      fX4_standsForItself_135 S3
  else
    fX4_standsForItself_135 S1
def fX8_hasName_2 (a0 : Nat) : Nat → Int64 → Int32 → mT → Option (Int32 × mT)
  | 0, _, _, _ => none
  | k + 1, v1, v3, S =>
    grd (kO a0 8 && true) <|
    if (S.1 a0 9) ≤ v3 then
      some ((0 : Int32), S)
    else
      grd (kJ (a0 + 1) v3 && (kO a0 8 && true)) <|
      if (lg_cmp (S.2 (a0 + 1) (mIx v3)) v1) = 0 then
        some ((1 : Int32), S)
      else
        bnd (v3 + (1 : Int32)) fun x1 =>
        fX8_hasName_2 a0 k v1 x1 S
def fX8_hasName (a0 : Nat) (v1 : Int64) (S : mT) : Option (Int32 × mT) :=
  fX8_hasName_2 a0 mK v1 (0 : Int32) S
def fX4_takeName_41 (a1 : Nat) (v2 : Int64) (S : mT) : Option (Int64 × mT) :=
  bndV (fX4_advance S) fun S7 =>
  some (v2, S7)
def fX4_takeName_20 (a1 : Nat) (v2 : Int64) (S : mT) : Option (Int64 × mT) :=
  bndV (fX4_refuse (2 : Int32) S) fun S8 =>
  fX4_takeName_41 a1 v2 S8
def fX4_takeName (a1 : Nat) (S : mT) : Option (Int64 × mT) :=
  grd (kO 1 4 && true) <|
  bnd (S.2 1 8) fun x1 =>
  grd (kO 1 4 && true) <|
  if (S.1 1 4) = (1 : Int32) then
    bndC (fX4_standsForItself S) fun x3 S2 =>
    if x3 = 0 then
      bndC (fX8_hasName a1 x1 S2) fun x5 S4 =>
      if x5 = 0 then
        fX4_takeName_41 a1 x1 S4
      else
        bndV (fX4_refuse (3 : Int32) S4) fun S6 =>
        fX4_takeName_41 a1 x1 S6
    else
      fX4_takeName_20 a1 x1 S2
  else
    fX4_takeName_20 a1 x1 S
def fX8_addHouse_71 (a0 : Nat) (S : mT) : Option (mT) :=
  some S
def fX8_addHouse (a0 : Nat) (v1 : Int64) (v3 : Int32) (v4 : Int32) (v5 : Int32) (v6 : Int32) (S : mT) : Option (mT) :=
  grd (kO a0 8 && true) <|
  if (5 : Int32) ≤ (S.1 a0 9) then
    fX8_addHouse_71 a0 S
  else
    grd (kJ (a0 + 1) (S.1 a0 9) && (kO a0 8 && (kO a0 8 && true))) <|
    bnd (sJ S (a0 + 1) (mIx (S.1 a0 9)) v1) fun S1 =>
    grd (kI (a0 + 2) (S1.1 a0 9) && (kO a0 8 && (kO a0 8 && true))) <|
    bnd (sI S1 (a0 + 2) (mIx (S1.1 a0 9)) v3) fun S2 =>
    grd (kI (a0 + 3) (S2.1 a0 9) && (kO a0 8 && (kO a0 8 && true))) <|
    bnd (sI S2 (a0 + 3) (mIx (S2.1 a0 9)) v4) fun S3 =>
    grd (kI (a0 + 4) (S3.1 a0 9) && (kO a0 8 && (kO a0 8 && true))) <|
    bnd (sI S3 (a0 + 4) (mIx (S3.1 a0 9)) v5) fun S4 =>
    grd (kI (a0 + 5) (S4.1 a0 9) && (kO a0 8 && (kO a0 8 && true))) <|
    bnd (sI S4 (a0 + 5) (mIx (S4.1 a0 9)) v6) fun S5 =>
    grd (kO a0 8 && (kO a0 8 && true)) <|
    bnd (sI S5 a0 9 ((S5.1 a0 9) + (1 : Int32))) fun S6 =>
    fX8_addHouse_71 a0 S6
def fX4_readHouse_87 (a1 : Nat) (v2 : Int64) (v4 : Int32) (v5 : Int32) (v6 : Int32) (s0 : Int32) (S : mT) : Option (mT) :=
  bndV (fX8_addHouse a1 v2 v4 v5 v6 s0 S) fun S17 =>
  some S17
def fX4_readHouse_64 (a1 : Nat) (v2 : Int64) (v4 : Int32) (v5 : Int32) (s0 : Int32) (S : mT) : Option (mT) :=
  bndC (fX4_isWord 900004 S) fun x14 S13 =>
  if x14 = 0 then
    fX4_readHouse_87 a1 v2 v4 v5 s0 (0 : Int32) S13
  else
    bndC (fX4_takeTold 900004 (9 : Int32) S13) fun x16 S15 =>
    fX4_readHouse_87 a1 v2 v4 v5 s0 x16 S15
def fX4_readHouse_13 (a1 : Nat) (S : mT) : Option (mT) :=
  bndV (fX4_advance S) fun S2 =>
  bndC (fX4_takeName a1 S2) fun x4 S3 =>
  bndC (fX4_takeTold 900001 (60 : Int32) S3) fun x6 S5 =>
  bndC (fX4_takeTold 900002 (7 : Int32) S5) fun x8 S7 =>
  bndC (fX4_isWord 900003 S7) fun x10 S9 =>
  if x10 = 0 then
    fX4_readHouse_64 a1 x4 x6 x8 (0 : Int32) S9
  else
    bndC (fX4_takeTold 900003 (9 : Int32) S9) fun x12 S11 =>
    fX4_readHouse_64 a1 x4 x6 x8 x12 S11
def fX4_readHouse (a1 : Nat) (S : mT) : Option (mT) :=
  grd (kO a1 8 && true) <|
  if (S.1 a1 9) < (5 : Int32) then
    fX4_readHouse_13 a1 S
  else
    bndV (fX4_refuse (2 : Int32) S) fun S1 =>
    fX4_readHouse_13 a1 S1
def fX4_isSign_21 (s0 : Int32) (S : mT) : Option (Int32 × mT) :=
  grd (mFit .boolean s0) (some (s0, S))
def fX4_isSign_20 (S : mT) : Option (Int32 × mT) :=
  fX4_isSign_21 (0 : Int32) S
def fX4_isSign (v1 : Int32) (S : mT) : Option (Int32 × mT) :=
  grd (kO 1 4 && true) <|
  if (S.1 1 4) = (3 : Int32) then
    grd (kO 1 4 && true) <|
    if (S.1 1 9) = v1 then
      fX4_isSign_21 (1 : Int32) S
    else
      fX4_isSign_20 S
  else
    fX4_isSign_20 S
def fX4_takeSign_13 (S : mT) : Option (mT) :=
  bndV (fX4_advance S) fun S4 =>
  some S4
def fX4_takeSign (v1 : Int32) (S : mT) : Option (mT) :=
  bndC (fX4_isSign v1 S) fun x2 S1 =>
  if x2 = 0 then
    bndV (fX4_refuse (2 : Int32) S1) fun S3 =>
    fX4_takeSign_13 S3
  else
    fX4_takeSign_13 S1
def fX4_valueNamed_69 (s0 : Int32) (S : mT) : Option (Int32 × mT) :=
  some (s0, S)
def fX4_valueNamed (S : mT) : Option (Int32 × mT) :=
  bndC (fX4_isWord 900002 S) fun x2 S1 =>
  if x2 = 0 then
    bndC (fX4_isWord 900012 S1) fun x4 S3 =>
    if x4 = 0 then
      bndC (fX4_isWord 900003 S3) fun x6 S5 =>
      if x6 = 0 then
        bndC (fX4_isWord 900004 S5) fun x8 S7 =>
        if x8 = 0 then
          bndC (fX4_isWord 900013 S7) fun x10 S9 =>
          if x10 = 0 then
            bndC (fX4_isWord 900014 S9) fun x12 S11 =>
            if x12 = 0 then
              fX4_valueNamed_69 (-1 : Int32) S11
            else
              fX4_valueNamed_69 (5 : Int32) S11
          else
            some ((4 : Int32), S9)
        else
          some ((3 : Int32), S7)
      else
        some ((2 : Int32), S5)
    else
      some ((1 : Int32), S3)
  else
    some ((0 : Int32), S1)
def fX4_readEither_47 (a1 : Nat) (self : Nat → Nat → Int32 → mT → Option (mT)) (S : mT) : Option (mT) :=
  some S
def fX4_readEither_8 (a1 : Nat) (self : Nat → Nat → Int32 → mT → Option (mT)) : Nat → Int32 → Int32 → mT → Option (mT)
  | 0, _, _, _ => none
  | k + 1, v2, v3, S =>
    if (1600 : Int32) ≤ v3 then
      fX4_readEither_47 a1 self S
    else
      bndC (fX4_isWord 900009 S) fun x3 S2 =>
      if x3 = 0 then
        fX4_readEither_47 a1 self S2
      else
        bndV (fX4_advance S2) fun S4 =>
        bndV (self 1 a1 v2 S4) fun S5 =>
        bndV (fX0_add a1 (20124 : Int32) S5) fun S6 =>
        bnd (v3 + (1 : Int32)) fun x7 =>
        fX4_readEither_8 a1 self k v2 x7 S6
def fX4_readEither_0 (a1 : Nat) (self : Nat → Nat → Int32 → mT → Option (mT)) (v2 : Int32) (S : mT) : Option (mT) :=
  bndV (self 1 a1 v2 S) fun S1 =>
  fX4_readEither_8 a1 self mK v2 (0 : Int32) S1
def fX4_readBoth_47 (a1 : Nat) (self : Nat → Nat → Int32 → mT → Option (mT)) (S : mT) : Option (mT) :=
  some S
def fX4_readBoth_8 (a1 : Nat) (self : Nat → Nat → Int32 → mT → Option (mT)) : Nat → Int32 → Int32 → mT → Option (mT)
  | 0, _, _, _ => none
  | k + 1, v2, v3, S =>
    if (1600 : Int32) ≤ v3 then
      fX4_readBoth_47 a1 self S
    else
      bndC (fX4_isWord 900010 S) fun x3 S2 =>
      if x3 = 0 then
        fX4_readBoth_47 a1 self S2
      else
        bndV (fX4_advance S2) fun S4 =>
        bndV (self 2 a1 v2 S4) fun S5 =>
        bndV (fX0_add a1 (20038 : Int32) S5) fun S6 =>
        bnd (v3 + (1 : Int32)) fun x7 =>
        fX4_readBoth_8 a1 self k v2 x7 S6
def fX4_readBoth_0 (a1 : Nat) (self : Nat → Nat → Int32 → mT → Option (mT)) (v2 : Int32) (S : mT) : Option (mT) :=
  bndV (self 2 a1 v2 S) fun S1 =>
  fX4_readBoth_8 a1 self mK v2 (0 : Int32) S1
def fX4_readOne_98 (a1 : Nat) (self : Nat → Nat → Int32 → mT → Option (mT)) (S : mT) : Option (mT) :=
  some S
def fX4_readOne_74 (a1 : Nat) (self : Nat → Nat → Int32 → mT → Option (mT)) (v2 : Int32) (S : mT) : Option (mT) :=
  grd (kO 1 4 && true) <|
  bnd (S.1 1 9) fun x14 =>
  bndV (fX4_advance S) fun S15 =>
  bndV (self 3 a1 v2 S15) fun S16 =>
  bndV (fX0_add a1 ((20000 : Int32) + x14) S16) fun S17 =>
  fX4_readOne_98 a1 self S17
def fX4_readOne_0 (a1 : Nat) (self : Nat → Nat → Int32 → mT → Option (mT)) (v2 : Int32) (S : mT) : Option (mT) :=
  bndC (fX4_isWord 900011 S) fun x2 S1 =>
  if x2 = 0 then
    bndV (self 3 a1 v2 S1) fun S3 =>
    bndC (fX4_isSign (60 : Int32) S3) fun x5 S4 =>
    if x5 = 0 then
      bndC (fX4_isSign (62 : Int32) S4) fun x7 S6 =>
      if x7 = 0 then
        bndC (fX4_isSign (61 : Int32) S6) fun x9 S8 =>
        if x9 = 0 then
          fX4_readOne_98 a1 self S8
        else
          fX4_readOne_74 a1 self v2 S8
      else
        fX4_readOne_74 a1 self v2 S6
    else
      fX4_readOne_74 a1 self v2 S4
  else
    if v2 ≤ (6 : Int32) then
      bndV (fX4_advance S1) fun S10 =>
      bndV (self 2 a1 (v2 + (1 : Int32)) S10) fun S11 =>
      bndV (fX0_add a1 (20033 : Int32) S11) fun S12 =>
      some S12
    else
      bndV (fX4_refuse (2 : Int32) S1) fun S13 =>
      some S13
def fX4_readSum_33 (a1 : Nat) (self : Nat → Nat → Int32 → mT → Option (mT)) (rc8 : Int32 → Int32 → mT → Option (mT)) (v2 : Int32) (v3 : Int32) (S : mT) : Option (mT) :=
  grd (kO 1 4 && true) <|
  bnd (S.1 1 9) fun x6 =>
  bndV (fX4_advance S) fun S7 =>
  bndV (self 4 a1 v2 S7) fun S8 =>
  bndV (fX0_add a1 ((20000 : Int32) + x6) S8) fun S9 =>
  bnd (v3 + (1 : Int32)) fun x10 =>
  rc8 v2 x10 S9
def fX4_readSum_65 (a1 : Nat) (self : Nat → Nat → Int32 → mT → Option (mT)) (S : mT) : Option (mT) :=
  some S
def fX4_readSum_8 (a1 : Nat) (self : Nat → Nat → Int32 → mT → Option (mT)) : Nat → Int32 → Int32 → mT → Option (mT)
  | 0, _, _, _ => none
  | k + 1, v2, v3, S =>
    if (1600 : Int32) ≤ v3 then
      fX4_readSum_65 a1 self S
    else
      bndC (fX4_isSign (43 : Int32) S) fun x3 S2 =>
      if x3 = 0 then
        bndC (fX4_isSign (45 : Int32) S2) fun x5 S4 =>
        if x5 = 0 then
          fX4_readSum_65 a1 self S4
        else
          fX4_readSum_33 a1 self (fX4_readSum_8 a1 self k) v2 v3 S4
      else
        fX4_readSum_33 a1 self (fX4_readSum_8 a1 self k) v2 v3 S2
def fX4_readSum_0 (a1 : Nat) (self : Nat → Nat → Int32 → mT → Option (mT)) (v2 : Int32) (S : mT) : Option (mT) :=
  bndV (self 4 a1 v2 S) fun S1 =>
  fX4_readSum_8 a1 self mK v2 (0 : Int32) S1
def fX4_readTerm_42 (a1 : Nat) (self : Nat → Nat → Int32 → mT → Option (mT)) (rc8 : Int32 → Int32 → mT → Option (mT)) (v2 : Int32) (v3 : Int32) (S : mT) : Option (mT) :=
  grd (kO 1 4 && true) <|
  bnd (S.1 1 9) fun x8 =>
  bndV (fX4_advance S) fun S9 =>
  bndV (self 5 a1 v2 S9) fun S10 =>
  bndV (fX0_add a1 ((20000 : Int32) + x8) S10) fun S11 =>
  bnd (v3 + (1 : Int32)) fun x12 =>
  rc8 v2 x12 S11
def fX4_readTerm_74 (a1 : Nat) (self : Nat → Nat → Int32 → mT → Option (mT)) (S : mT) : Option (mT) :=
  some S
def fX4_readTerm_8 (a1 : Nat) (self : Nat → Nat → Int32 → mT → Option (mT)) : Nat → Int32 → Int32 → mT → Option (mT)
  | 0, _, _, _ => none
  | k + 1, v2, v3, S =>
    if (1600 : Int32) ≤ v3 then
      fX4_readTerm_74 a1 self S
    else
      bndC (fX4_isSign (42 : Int32) S) fun x3 S2 =>
      if x3 = 0 then
        bndC (fX4_isSign (47 : Int32) S2) fun x5 S4 =>
        if x5 = 0 then
          bndC (fX4_isSign (37 : Int32) S4) fun x7 S6 =>
          if x7 = 0 then
            fX4_readTerm_74 a1 self S6
          else
            fX4_readTerm_42 a1 self (fX4_readTerm_8 a1 self k) v2 v3 S6
        else
          fX4_readTerm_42 a1 self (fX4_readTerm_8 a1 self k) v2 v3 S4
      else
        fX4_readTerm_42 a1 self (fX4_readTerm_8 a1 self k) v2 v3 S2
def fX4_readTerm_0 (a1 : Nat) (self : Nat → Nat → Int32 → mT → Option (mT)) (v2 : Int32) (S : mT) : Option (mT) :=
  bndV (self 5 a1 v2 S) fun S1 =>
  fX4_readTerm_8 a1 self mK v2 (0 : Int32) S1
def fX4_readUnit_115 (a1 : Nat) (self : Nat → Nat → Int32 → mT → Option (mT)) (S : mT) : Option (mT) :=
  some S
def fX4_readUnit_110 (a1 : Nat) (self : Nat → Nat → Int32 → mT → Option (mT)) (S : mT) : Option (mT) :=
  bndV (fX4_refuse (2 : Int32) S) fun S14 =>
  fX4_readUnit_115 a1 self S14
def fX4_readUnit_0 (a1 : Nat) (self : Nat → Nat → Int32 → mT → Option (mT)) (v2 : Int32) (S : mT) : Option (mT) :=
  grd (kO a1 0 && true) <|
  if (S.1 a1 3) < (30 : Int32) then
    grd (kO a1 0 && (kO a1 0 && true)) <|
    bnd (sI S a1 3 ((S.1 a1 3) + (1 : Int32))) fun S1 =>
    bndC (fX4_valueNamed S1) fun x3 S2 =>
    grd (kO 1 4 && true) <|
    if (S2.1 1 4) = (2 : Int32) then
      grd (kO 1 4 && true) <|
      bndV (fX0_add a1 (S2.1 1 7) S2) fun S4 =>
      bndV (fX4_advance S4) fun S5 =>
      fX4_readUnit_115 a1 self S5
    else
      if x3 = (-1 : Int32) then
        bndC (fX4_isSign (40 : Int32) S2) fun x7 S6 =>
        if x7 = 0 then
          fX4_readUnit_110 a1 self S6
        else
          if (6 : Int32) < v2 then
            fX4_readUnit_110 a1 self S6
          else
            bndV (fX4_advance S6) fun S8 =>
            bndV (self 0 a1 (v2 + (1 : Int32)) S8) fun S9 =>
            bndV (fX4_takeSign (41 : Int32) S9) fun S10 =>
            fX4_readUnit_115 a1 self S10
      else
        bndV (fX0_add a1 ((10000 : Int32) + x3) S2) fun S11 =>
        bndV (fX4_advance S11) fun S12 =>
        fX4_readUnit_115 a1 self S12
  else
    bndV (fX4_refuse (2 : Int32) S) fun S13 =>
    some S13
def fP : Nat → Nat → Nat → Int32 → mT → Option (mT)
  | 0, _, _, _, _ => none
  | d + 1, t, a1, v2, S => cond (Nat.beq t 0) (fX4_readEither_0 a1 (fP d) v2 S) (cond (Nat.beq t 1) (fX4_readBoth_0 a1 (fP d) v2 S) (cond (Nat.beq t 2) (fX4_readOne_0 a1 (fP d) v2 S) (cond (Nat.beq t 3) (fX4_readSum_0 a1 (fP d) v2 S) (cond (Nat.beq t 4) (fX4_readTerm_0 a1 (fP d) v2 S) (cond (Nat.beq t 5) (fX4_readUnit_0 a1 (fP d) v2 S) (none))))))
def fX4_readLaw_11 (a1 : Nat) (S : mT) : Option (mT) :=
  bndV (fX4_refuse (2 : Int32) S) fun S4 =>
  some S4
def fX4_readLaw (a1 : Nat) (S : mT) : Option (mT) :=
  if a1 = NUL then
    fX4_readLaw_11 a1 S
  else
    grd (kO a1 0 && true) <|
    if (S.1 a1 4) = 0 then
      grd (mFit .boolean (1 : Int32) && (kO a1 0 && true)) <|
      bnd (sI S a1 4 (1 : Int32)) fun S1 =>
      bndV (fX4_advance S1) fun S2 =>
      bndV (fP 60 0 a1 (0 : Int32) S2) fun S3 =>
      some S3
    else
      fX4_readLaw_11 a1 S
def fX8_clear (a0 : Nat) (S : mT) : Option (mT) :=
  grd (kO a0 8 && true) <|
  bnd (sI S a0 9 (0 : Int32)) fun S1 =>
  grd (kO a0 8 && true) <|
  bnd (sI S1 a0 10 (0 : Int32)) fun S2 =>
  grd (mFit .boolean (0 : Int32) && (kO a0 8 && true)) <|
  bnd (sI S2 a0 11 (0 : Int32)) fun S3 =>
  grd (kO a0 8 && true) <|
  bndV (fX0_clear (a0 + 6) S3) fun S4 =>
  grd (kO a0 8 && true) <|
  bndV (fX0_clear (a0 + 9) S4) fun S5 =>
  grd (kO a0 8 && true) <|
  bndV (fX0_clear (a0 + 12) S5) fun S6 =>
  some S6
def fX4_readAll_77 (a1 : Nat) (rc20 : Int32 → mT → Option (Int32 × mT)) (v2 : Int32) (S : mT) : Option (Int32 × mT) :=
  bndV (fX4_takeSign (59 : Int32) S) fun S14 =>
  bnd (v2 + (1 : Int32)) fun x15 =>
  rc20 x15 S14
def fX4_readAll_101 (a1 : Nat) (s0 : Int32) (S : mT) : Option (Int32 × mT) :=
  grd (mFit .boolean s0) (some (s0, S))
def fX4_readAll_89 (a1 : Nat) (S : mT) : Option (Int32 × mT) :=
  grd (kO 1 4 && true) <|
  if (S.1 1 2) = 0 then
    fX4_readAll_101 a1 (1 : Int32) S
  else
    fX4_readAll_101 a1 (0 : Int32) S
def fX4_readAll_20 (a1 : Nat) : Nat → Int32 → mT → Option (Int32 × mT)
  | 0, _, _ => none
  | k + 1, v2, S =>
    if (1600 : Int32) ≤ v2 then
      fX4_readAll_89 a1 S
    else
      grd (kO 1 4 && true) <|
      if (S.1 1 4) = 0 then
        fX4_readAll_89 a1 S
      else
        bndC (fX4_isWord 900000 S) fun x6 S5 =>
        if x6 = 0 then
          bndC (fX4_isWord 900008 S5) fun x8 S7 =>
          if x8 = 0 then
            bndC (fX4_lawNamed a1 S7) fun x10 S9 =>
            bndV (fX4_readLaw x10 S9) fun S11 =>
            fX4_readAll_77 a1 (fX4_readAll_20 a1 k) v2 S11
          else
            bndV (fX4_readDraw a1 S7) fun S12 =>
            fX4_readAll_77 a1 (fX4_readAll_20 a1 k) v2 S12
        else
          bndV (fX4_readHouse a1 S5) fun S13 =>
          fX4_readAll_77 a1 (fX4_readAll_20 a1 k) v2 S13
def fX4_readAll (a1 : Nat) (S : mT) : Option (Int32 × mT) :=
  bndV (fX8_clear a1 S) fun S1 =>
  grd (kO 1 4 && true) <|
  bnd (sI S1 1 2 (0 : Int32)) fun S2 =>
  grd (kO 1 4 && true) <|
  bnd (sI S2 1 6 (0 : Int32)) fun S3 =>
  bndV (fX4_advance S3) fun S4 =>
  fX4_readAll_20 a1 mK (0 : Int32) S4
def fX8_begin (a0 : Nat) (a1 : Nat) (S : mT) : Option (mT) :=
  bndV (fJ7_fill_53178 a1 (0 : Int32) S) fun S1 =>
  grd (kC (a0 + 3) a1 (0 : Int32) (0 : Int32) (S1.1 a0 9) && (kO a0 8 && (kO a0 8 && true))) <|
  bnd (sC S1 (a0 + 3) a1 (0 : Int32) (0 : Int32) (S1.1 a0 9)) fun S2 =>
  grd (kI a1 (16 : Int32) && (kO a0 8 && true)) <|
  bnd (sI S2 a1 (mIx (16 : Int32)) (S2.1 a0 10)) fun S3 =>
  some S3
def fX11_province (b : Bool) (S : mT) : Option (Int32 × mT × Bool) :=
  grd (kO 0 11 && (kO 0 11 && true)) <|
  bndC (fX4_readAll (shV b) S) fun x2 S1 =>
  grd (kO 1 4 && (kO 0 11 && true)) <|
  bnd (sI S1 1 1 (0 : Int32)) fun S3 =>
  if x2 = 0 then
    some ((-1 : Int32), S3, b)
  else
    grd (kO 0 11 && (kO 0 11 && (kO 0 11 && (kO 0 11 && true)))) <|
    grd (kO 0 11 && (kO 0 11 && true)) <|
    bndV (fX8_begin (shU (!b)) 35 S3) fun S4 =>
    grd (kO 0 11 && (kO 0 11 && true)) <|
    bndV (fX2_startFrom 35 S4) fun S5 =>
    grd (kO 0 11 && true) <|
    bndV (fX2_emptyBoxes S5) fun S6 =>
    grd (kO 114 5 && (kO 0 11 && true)) <|
    bnd (sI S6 114 5 (0 : Int32)) fun S7 =>
    grd (kO 0 11 && true) <|
    bndV (fX10_forget S7) fun S8 =>
    grd (kO 0 11 && true) <|
    bndV (fX3_forget S8) fun S9 =>
    grd (kO 0 11 && true) <|
    bnd (sI S9 0 13 (0 : Int32)) fun S10 =>
    grd (kO (shU (!b)) 8 && (kO 0 11 && true)) <|
    some ((S10.1 (shU (!b)) 9), S10, (!b))
