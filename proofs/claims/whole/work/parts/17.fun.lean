def fJ6_bitCount_0f7a4 (v0 : Int32) (S : mT) : Option (Int32 × mT) :=
  bnd (v0 - ((v0.toUInt32 >>> ((1 : Int32).toUInt32 &&& Int32.toUInt32 31)).toInt32 &&& (1431655765 : Int32))) fun x1 =>
  bnd ((x1 &&& (858993459 : Int32)) + ((x1.toUInt32 >>> ((2 : Int32).toUInt32 &&& Int32.toUInt32 31)).toInt32 &&& (858993459 : Int32))) fun x2 =>
  bnd ((x2 + (x2.toUInt32 >>> ((4 : Int32).toUInt32 &&& Int32.toUInt32 31)).toInt32) &&& (252645135 : Int32)) fun x3 =>
  bnd (x3 + (x3.toUInt32 >>> ((8 : Int32).toUInt32 &&& Int32.toUInt32 31)).toInt32) fun x4 =>
  bnd (x4 + (x4.toUInt32 >>> ((16 : Int32).toUInt32 &&& Int32.toUInt32 31)).toInt32) fun x5 =>
  some ((x5 &&& (63 : Int32)), S)
def fJ7_fill_53178_5 (a0 : Nat) : Nat → Int32 → Int32 → Int32 → mT → Option (mT)
  | 0, _, _, _, _ => none
  | k + 1, v1, v2, v3, S =>
    if v3 ≤ v2 then
      some S
    else
      grd (kI a0 v2 && true) <|
      bnd (sI S a0 (mIx v2) v1) fun S2 =>
      bnd (v2 + (1 : Int32)) fun x3 =>
      fJ7_fill_53178_5 a0 k v1 x3 v3 S2
def fJ7_fill_53178 (a0 : Nat) (v1 : Int32) (S : mT) : Option (mT) :=
  grd (kAL 233 (sT a0) a0 && true) <|
  bnd (Int32.ofNat (kLen (sT a0))) fun x1 =>
  fJ7_fill_53178_5 a0 mK v1 (0 : Int32) x1 S
def fX0_join_143 (s0 : Int32) (S : mT) : Option (Int32 × mT) :=
  some (s0, S)
def fX0_join_155 (s0 : Int32) (S : mT) : Option (Int32 × mT) :=
  some (s0, S)
def fX0_join_166 (s0 : Int32) (S : mT) : Option (Int32 × mT) :=
  some (s0, S)
def fX0_join_177 (s0 : Int32) (S : mT) : Option (Int32 × mT) :=
  some (s0, S)
def fX0_join_188 (s0 : Int32) (S : mT) : Option (Int32 × mT) :=
  some (s0, S)
def fX0_join_202 (s0 : Int32) (S : mT) : Option (Int32 × mT) :=
  some (s0, S)
def fX0_join_201 (S : mT) : Option (Int32 × mT) :=
  fX0_join_202 (0 : Int32) S
def fX0_join_216 (s0 : Int32) (S : mT) : Option (Int32 × mT) :=
  some (s0, S)
def fX0_join_211 (S : mT) : Option (Int32 × mT) :=
  fX0_join_216 (1 : Int32) S
def fX0_join (v0 : Int32) (v1 : Int32) (v2 : Int32) (S : mT) : Option (Int32 × mT) :=
  if v0 = (37 : Int32) then
    if v2 = 0 then
      fX0_join_155 (0 : Int32) S
    else
      grd (decide (¬ v2 = 0) && true) <|
      fX0_join_155 (v1 - v1 / v2 * v2) S
  else
    if v0 = (38 : Int32) then
      if v1 = 0 then
        fX0_join_201 S
      else
        if v2 = 0 then
          fX0_join_201 S
        else
          fX0_join_202 (1 : Int32) S
    else
      if v0 = (39 : Int32) then
        if v1 = 0 then
          if v2 = 0 then
            fX0_join_216 (0 : Int32) S
          else
            fX0_join_211 S
        else
          fX0_join_211 S
      else
        if v0 = (40 : Int32) then
          if v1 = 0 then
            if v2 = 0 then
              fX0_join_216 (0 : Int32) S
            else
              fX0_join_211 S
          else
            fX0_join_211 S
        else
          if v0 = (41 : Int32) then
            if v1 = 0 then
              if v2 = 0 then
                fX0_join_216 (0 : Int32) S
              else
                fX0_join_211 S
            else
              fX0_join_211 S
          else
            if v0 = (42 : Int32) then
              some ((v1 * v2), S)
            else
              if v0 = (43 : Int32) then
                some ((v1 + v2), S)
              else
                if v0 = (44 : Int32) then
                  if v1 = 0 then
                    if v2 = 0 then
                      fX0_join_216 (0 : Int32) S
                    else
                      fX0_join_211 S
                  else
                    fX0_join_211 S
                else
                  if v0 = (45 : Int32) then
                    some ((v1 - v2), S)
                  else
                    if v0 = (46 : Int32) then
                      if v1 = 0 then
                        if v2 = 0 then
                          fX0_join_216 (0 : Int32) S
                        else
                          fX0_join_211 S
                      else
                        fX0_join_211 S
                    else
                      if v0 = (47 : Int32) then
                        if v2 = 0 then
                          fX0_join_143 (0 : Int32) S
                        else
                          grd (decide (¬ v2 = 0) && true) <|
                          fX0_join_143 (v1 / v2) S
                      else
                        if v0 = (48 : Int32) then
                          if v1 = 0 then
                            if v2 = 0 then
                              fX0_join_216 (0 : Int32) S
                            else
                              fX0_join_211 S
                          else
                            fX0_join_211 S
                        else
                          if v0 = (49 : Int32) then
                            if v1 = 0 then
                              if v2 = 0 then
                                fX0_join_216 (0 : Int32) S
                              else
                                fX0_join_211 S
                            else
                              fX0_join_211 S
                          else
                            if v0 = (50 : Int32) then
                              if v1 = 0 then
                                if v2 = 0 then
                                  fX0_join_216 (0 : Int32) S
                                else
                                  fX0_join_211 S
                              else
                                fX0_join_211 S
                            else
                              if v0 = (51 : Int32) then
                                if v1 = 0 then
                                  if v2 = 0 then
                                    fX0_join_216 (0 : Int32) S
                                  else
                                    fX0_join_211 S
                                else
                                  fX0_join_211 S
                              else
                                if v0 = (52 : Int32) then
                                  if v1 = 0 then
                                    if v2 = 0 then
                                      fX0_join_216 (0 : Int32) S
                                    else
                                      fX0_join_211 S
                                  else
                                    fX0_join_211 S
                                else
                                  if v0 = (53 : Int32) then
                                    if v1 = 0 then
                                      if v2 = 0 then
                                        fX0_join_216 (0 : Int32) S
                                      else
                                        fX0_join_211 S
                                    else
                                      fX0_join_211 S
                                  else
                                    if v0 = (54 : Int32) then
                                      if v1 = 0 then
                                        if v2 = 0 then
                                          fX0_join_216 (0 : Int32) S
                                        else
                                          fX0_join_211 S
                                      else
                                        fX0_join_211 S
                                    else
                                      if v0 = (55 : Int32) then
                                        if v1 = 0 then
                                          if v2 = 0 then
                                            fX0_join_216 (0 : Int32) S
                                          else
                                            fX0_join_211 S
                                        else
                                          fX0_join_211 S
                                      else
                                        if v0 = (56 : Int32) then
                                          if v1 = 0 then
                                            if v2 = 0 then
                                              fX0_join_216 (0 : Int32) S
                                            else
                                              fX0_join_211 S
                                          else
                                            fX0_join_211 S
                                        else
                                          if v0 = (57 : Int32) then
                                            if v1 = 0 then
                                              if v2 = 0 then
                                                fX0_join_216 (0 : Int32) S
                                              else
                                                fX0_join_211 S
                                            else
                                              fX0_join_211 S
                                          else
                                            if v0 = (58 : Int32) then
                                              if v1 = 0 then
                                                if v2 = 0 then
                                                  fX0_join_216 (0 : Int32) S
                                                else
                                                  fX0_join_211 S
                                              else
                                                fX0_join_211 S
                                            else
                                              if v0 = (59 : Int32) then
                                                if v1 = 0 then
                                                  if v2 = 0 then
                                                    fX0_join_216 (0 : Int32) S
                                                  else
                                                    fX0_join_211 S
                                                else
                                                  fX0_join_211 S
                                              else
                                                if v0 = (60 : Int32) then
                                                  if v2 ≤ v1 then
                                                    fX0_join_166 (0 : Int32) S
                                                  else
                                                    fX0_join_166 (1 : Int32) S
                                                else
                                                  if v0 = (61 : Int32) then
                                                    if v1 = v2 then
                                                      fX0_join_188 (1 : Int32) S
                                                    else
                                                      fX0_join_188 (0 : Int32) S
                                                  else
                                                    if v0 = (62 : Int32) then
                                                      if v1 ≤ v2 then
                                                        fX0_join_177 (0 : Int32) S
                                                      else
                                                        fX0_join_177 (1 : Int32) S
                                                    else
                                                      if v1 = 0 then
                                                        if v2 = 0 then
                                                          fX0_join_216 (0 : Int32) S
                                                        else
                                                          fX0_join_211 S
                                                      else
                                                        fX0_join_211 S
def fX0_leaf_25 (a1 : Nat) (s0 : Int32) (S : mT) : Option (Int32 × mT) :=
  some (s0, S)
def fX0_leaf (a1 : Nat) (v0 : Int32) (S : mT) : Option (Int32 × mT) :=
  bnd (v0 - (10000 : Int32)) fun x1 =>
  if 0 ≤ x1 then
    grd (kAL 233 (sT a1) a1 && true) <|
    if (Int32.ofNat (kLen (sT a1))) ≤ x1 then
      fX0_leaf_25 a1 (0 : Int32) S
    else
      grd (kI a1 x1 && true) <|
      fX0_leaf_25 a1 (S.1 a1 (mIx x1)) S
  else
    some (v0, S)
def fX0_work_130 (a0 : Nat) (a1 : Nat) (rc4 : Int32 → Int32 → mT → Option (Int32 × mT)) (v2 : Int32) (v3 : Int32) (S : mT) : Option (Int32 × mT) :=
  bnd (v3 + (1 : Int32)) fun x10 =>
  rc4 v2 x10 S
def fX0_work_87 (a0 : Nat) (a1 : Nat) (rc4 : Int32 → Int32 → mT → Option (Int32 × mT)) (v2 : Int32) (v3 : Int32) (s0 : Int32) (s1 : Int32) (S : mT) : Option (Int32 × mT) :=
  grd (kI (a0 + 2) s1 && true) <|
  bnd (sI S (a0 + 2) (mIx s1) s0) fun S11 =>
  fX0_work_130 a0 a1 rc4 v2 v3 S11
def fX0_work_152 (a0 : Nat) (a1 : Nat) (s0 : Int32) (S : mT) : Option (Int32 × mT) :=
  some (s0, S)
def fX0_work_4 (a0 : Nat) (a1 : Nat) : Nat → Int32 → Int32 → mT → Option (Int32 × mT)
  | 0, _, _, _ => none
  | k + 1, v2, v3, S =>
    grd (kO a0 0 && true) <|
    if (S.1 a0 2) ≤ v3 then
      if v2 ≤ 0 then
        fX0_work_152 a0 a1 (0 : Int32) S
      else
        grd (kI (a0 + 2) (v2 - (1 : Int32)) && (kO a0 0 && true)) <|
        fX0_work_152 a0 a1 (S.1 (a0 + 2) (mIx (v2 - (1 : Int32)))) S
    else
      grd (kI (a0 + 1) v3 && (kO a0 0 && true)) <|
      bnd (S.1 (a0 + 1) (mIx v3)) fun x1 =>
      if (20000 : Int32) ≤ x1 then
        if x1 = (20033 : Int32) then
          if v2 ≤ 0 then
            fX0_work_130 a0 a1 (fX0_work_4 a0 a1 k) v2 v3 S
          else
            grd (kI (a0 + 2) (v2 - (1 : Int32)) && (kO a0 0 && (kO a0 0 && true))) <|
            if (S.1 (a0 + 2) (mIx (v2 - (1 : Int32)))) = 0 then
              fX0_work_87 a0 a1 (fX0_work_4 a0 a1 k) v2 v3 (1 : Int32) (v2 - (1 : Int32)) S
            else
              fX0_work_87 a0 a1 (fX0_work_4 a0 a1 k) v2 v3 (0 : Int32) (v2 - (1 : Int32)) S
        else
          if v2 ≤ (1 : Int32) then
            fX0_work_130 a0 a1 (fX0_work_4 a0 a1 k) v2 v3 S
          else
            bnd (v2 + (-1 : Int32)) fun x2 =>
            grd (kI (a0 + 2) x2 && (kO a0 0 && (kI (a0 + 2) (x2 - (1 : Int32)) && (kO a0 0 && (kO a0 0 && true))))) <|
            bndC (fX0_join (x1 - (20000 : Int32)) (S.1 (a0 + 2) (mIx (x2 - (1 : Int32)))) (S.1 (a0 + 2) (mIx x2)) S) fun x4 S3 =>
            grd (kI (a0 + 2) (x2 - (1 : Int32)) && true) <|
            bnd (sI S3 (a0 + 2) (mIx (x2 - (1 : Int32))) x4) fun S5 =>
            fX0_work_130 a0 a1 (fX0_work_4 a0 a1 k) x2 v3 S5
      else
        if (30 : Int32) ≤ v2 then
          fX0_work_130 a0 a1 (fX0_work_4 a0 a1 k) v2 v3 S
        else
          grd (kO a0 0 && true) <|
          bndC (fX0_leaf a1 x1 S) fun x7 S6 =>
          grd (kI (a0 + 2) v2 && true) <|
          bnd (sI S6 (a0 + 2) (mIx v2) x7) fun S8 =>
          bnd (v2 + (1 : Int32)) fun x9 =>
          fX0_work_130 a0 a1 (fX0_work_4 a0 a1 k) x9 v3 S8
def fX0_work (a0 : Nat) (a1 : Nat) (S : mT) : Option (Int32 × mT) :=
  fX0_work_4 a0 a1 mK (0 : Int32) (0 : Int32) S
def fX11_isWithin_15 (s0 : Int32) (S : mT) : Option (Int32 × mT) :=
  grd (mFit .boolean s0) (some (s0, S))
def fX11_isWithin_14 (S : mT) : Option (Int32 × mT) :=
  fX11_isWithin_15 (0 : Int32) S
def fX11_isWithin (v0 : Int32) (v1 : Int32) (v2 : Int32) (S : mT) : Option (Int32 × mT) :=
  if v0 < v1 then
    fX11_isWithin_14 S
  else
    if v2 < v0 then
      fX11_isWithin_14 S
    else
      fX11_isWithin_15 (1 : Int32) S
def fX2_copyFrom (a1 : Nat) (S : mT) : Option (mT) :=
  grd (kC a1 (rowR 38 (mIx (((S.1 37 3) + (S.1 37 4)) - ((S.1 37 3) + (S.1 37 4)) / (41 : Int32) * (41 : Int32)))) (0 : Int32) (0 : Int32) (17 : Int32) && (kR 38 (((S.1 37 3) + (S.1 37 4)) - ((S.1 37 3) + (S.1 37 4)) / (41 : Int32) * (41 : Int32)) && (decide (¬ (41 : Int32) = 0) && (kO 37 2 && (kO 37 2 && (kO 37 2 && true)))))) <|
  bnd (sC S a1 (rowR 38 (mIx (((S.1 37 3) + (S.1 37 4)) - ((S.1 37 3) + (S.1 37 4)) / (41 : Int32) * (41 : Int32)))) (0 : Int32) (0 : Int32) (17 : Int32)) fun S1 =>
  some S1
def fX11_limited (v0 : Int32) (v1 : Int32) (v2 : Int32) (S : mT) : Option (Int32 × mT) :=
  bnd (if v0 < v2 then v0 else v2) fun x1 =>
  bnd (if v1 < x1 then x1 else v1) fun x2 =>
  some (x2, S)
def fX8_setValues (a0 : Nat) (v1 : Int32) (v2 : Int32) (v3 : Int32) (v4 : Int32) (v5 : Int32) (v6 : Int32) (S : mT) : Option (mT) :=
  grd (kI (a0 + 15) (0 : Int32) && (kO a0 8 && true)) <|
  bnd (sI S (a0 + 15) (mIx (0 : Int32)) v1) fun S1 =>
  grd (kI (a0 + 15) (1 : Int32) && (kO a0 8 && true)) <|
  bnd (sI S1 (a0 + 15) (mIx (1 : Int32)) v2) fun S2 =>
  grd (kI (a0 + 15) (2 : Int32) && (kO a0 8 && true)) <|
  bnd (sI S2 (a0 + 15) (mIx (2 : Int32)) v3) fun S3 =>
  grd (kI (a0 + 15) (3 : Int32) && (kO a0 8 && true)) <|
  bnd (sI S3 (a0 + 15) (mIx (3 : Int32)) v4) fun S4 =>
  grd (kI (a0 + 15) (4 : Int32) && (kO a0 8 && true)) <|
  bnd (sI S4 (a0 + 15) (mIx (4 : Int32)) v5) fun S5 =>
  grd (kI (a0 + 15) (5 : Int32) && (kO a0 8 && true)) <|
  bnd (sI S5 (a0 + 15) (mIx (5 : Int32)) v6) fun S6 =>
  some S6
def fX8_growHouse (a0 : Nat) (a1 : Nat) (v2 : Int32) (S : mT) : Option (mT) :=
  grd (kI a1 ((0 : Int32) + v2) && true) <|
  bnd (S.1 a1 (mIx ((0 : Int32) + v2))) fun x1 =>
  grd (kI a1 (15 : Int32) && (kI a1 ((10 : Int32) + v2) && (kI (a0 + 5) v2 && (kO a0 8 && (kI (a0 + 4) v2 && (kO a0 8 && (kI a1 ((5 : Int32) + v2) && true))))))) <|
  bndV (fX8_setValues a0 x1 (S.1 a1 (mIx ((5 : Int32) + v2))) (S.1 (a0 + 4) (mIx v2)) (S.1 (a0 + 5) (mIx v2)) (S.1 a1 (mIx ((10 : Int32) + v2))) (S.1 a1 (mIx (15 : Int32))) S) fun S2 =>
  grd (kO a0 8 && (kO a0 8 && true)) <|
  bndC (fX0_work (a0 + 12) (a0 + 15) S2) fun x4 S3 =>
  bndC (fX11_limited x4 (-3 : Int32) (3 : Int32) S3) fun x6 S5 =>
  bndC (fX11_limited (x1 + x6) (0 : Int32) (7 : Int32) S5) fun x8 S7 =>
  grd (kI a1 ((0 : Int32) + v2) && true) <|
  bnd (sI S7 a1 (mIx ((0 : Int32) + v2)) x8) fun S9 =>
  grd (kI a1 ((0 : Int32) + v2) && (kI a1 ((5 : Int32) + v2) && true)) <|
  bnd (if (S9.1 a1 (mIx ((0 : Int32) + v2))) < (S9.1 a1 (mIx ((5 : Int32) + v2))) then (S9.1 a1 (mIx ((0 : Int32) + v2))) else (S9.1 a1 (mIx ((5 : Int32) + v2)))) fun x10 =>
  grd (kI a1 ((5 : Int32) + v2) && true) <|
  bnd (sI S9 a1 (mIx ((5 : Int32) + v2)) x10) fun S11 =>
  some S11
def fX8_sendMagpie_41 (a0 : Nat) (a1 : Nat) (S : mT) : Option (mT) :=
  some S
def fX8_sendMagpie (a0 : Nat) (a1 : Nat) (S : mT) : Option (mT) :=
  grd (kO a0 8 && true) <|
  if (S.1 a0 9) ≤ 0 then
    fX8_sendMagpie_41 a0 a1 S
  else
    grd (decide (¬ (S.1 a0 9) = 0) && (kO a0 8 && (kI a1 (16 : Int32) && true))) <|
    bnd ((10 : Int32) + ((S.1 a1 (mIx (16 : Int32))) - (S.1 a1 (mIx (16 : Int32))) / (S.1 a0 9) * (S.1 a0 9))) fun x1 =>
    grd (decide (¬ (3 : Int32) = 0) && (decide (¬ (100 : Int32) = 0) && (kI a1 (16 : Int32) && (kI a1 x1 && (kI a1 x1 && true))))) <|
    bnd (if (((S.1 a1 (mIx (16 : Int32))) / (100 : Int32)) - ((S.1 a1 (mIx (16 : Int32))) / (100 : Int32)) / (3 : Int32) * (3 : Int32)) < (S.1 a1 (mIx x1)) then (((S.1 a1 (mIx (16 : Int32))) / (100 : Int32)) - ((S.1 a1 (mIx (16 : Int32))) / (100 : Int32)) / (3 : Int32) * (3 : Int32)) else (S.1 a1 (mIx x1))) fun x2 =>
    grd (kI a1 x1 && true) <|
    bnd (sI S a1 (mIx x1) ((S.1 a1 (mIx x1)) - x2)) fun S3 =>
    fX8_sendMagpie_41 a0 a1 S3
def fX8_stonesHiding (a0 : Nat) (a1 : Nat) (v2 : Int32) (v3 : Int32) (S : mT) : Option (Int32 × mT) :=
  grd (kI a1 ((0 : Int32) + v2) && true) <|
  bnd (S.1 a1 (mIx ((0 : Int32) + v2))) fun x1 =>
  grd (kO (a0 + 6) 0 && (kO a0 8 && true)) <|
  if (S.1 (a0 + 6) 4) = 0 then
    grd (kI (a0 + 5) v2 && (kO a0 8 && true)) <|
    bndC (fX11_limited ((x1 - v3) + (S.1 (a0 + 5) (mIx v2))) (0 : Int32) (99 : Int32) S) fun x3 S2 =>
    some (x3, S2)
  else
    grd (kI a1 (15 : Int32) && (kI (a0 + 5) v2 && (kO a0 8 && (kI (a0 + 4) v2 && (kO a0 8 && true))))) <|
    bndV (fX8_setValues a0 x1 v3 (S.1 (a0 + 4) (mIx v2)) (S.1 (a0 + 5) (mIx v2)) (0 : Int32) (S.1 a1 (mIx (15 : Int32))) S) fun S4 =>
    grd (kO a0 8 && (kO a0 8 && true)) <|
    bndC (fX0_work (a0 + 6) (a0 + 15) S4) fun x6 S5 =>
    bndC (fX11_limited x6 (0 : Int32) (99 : Int32) S5) fun x8 S7 =>
    some (x8, S7)
def fX8_stonesOf (a0 : Nat) (a1 : Nat) (v2 : Int32) (S : mT) : Option (Int32 × mT) :=
  grd (kI a1 ((5 : Int32) + v2) && true) <|
  bndC (fX8_stonesHiding a0 a1 v2 (S.1 a1 (mIx ((5 : Int32) + v2))) S) fun x2 S1 =>
  some (x2, S1)
def fX8_passSummer_84 (a0 : Nat) (a1 : Nat) (S : mT) : Option (mT) :=
  grd (kI a1 (15 : Int32) && (kI a1 (15 : Int32) && true)) <|
  bnd (sI S a1 (mIx (15 : Int32)) ((S.1 a1 (mIx (15 : Int32))) + (1 : Int32))) fun S7 =>
  some S7
def fX8_passSummer_64 (a0 : Nat) (a1 : Nat) : Nat → Int32 → mT → Option (mT)
  | 0, _, _ => none
  | k + 1, v2, S =>
    grd (kO a0 8 && true) <|
    if (S.1 a0 9) ≤ v2 then
      fX8_passSummer_84 a0 a1 S
    else
      bndV (fX8_growHouse a0 a1 v2 S) fun S8 =>
      bnd (v2 + (1 : Int32)) fun x9 =>
      fX8_passSummer_64 a0 a1 k x9 S8
def fX8_passSummer_2 (a0 : Nat) (a1 : Nat) : Nat → Int32 → mT → Option (mT)
  | 0, _, _ => none
  | k + 1, v2, S =>
    grd (kO a0 8 && true) <|
    if (S.1 a0 9) ≤ v2 then
      grd (kI a1 (16 : Int32) && (decide (¬ (1000 : Int32) = 0) && (kI a1 (16 : Int32) && true))) <|
      bnd (sI S a1 (mIx (16 : Int32)) ((((S.1 a1 (mIx (16 : Int32))) * (137 : Int32)) + (71 : Int32)) - (((S.1 a1 (mIx (16 : Int32))) * (137 : Int32)) + (71 : Int32)) / (1000 : Int32) * (1000 : Int32))) fun S1 =>
      bndV (fX8_sendMagpie a0 a1 S1) fun S2 =>
      grd (kO (a0 + 12) 0 && (kO a0 8 && true)) <|
      if (S2.1 (a0 + 12) 4) = 0 then
        fX8_passSummer_84 a0 a1 S2
      else
        fX8_passSummer_64 a0 a1 mK (0 : Int32) S2
    else
      bndC (fX8_stonesOf a0 a1 v2 S) fun x4 S3 =>
      grd (kI a1 ((10 : Int32) + v2) && true) <|
      bnd (sI S3 a1 (mIx ((10 : Int32) + v2)) x4) fun S5 =>
      bnd (v2 + (1 : Int32)) fun x6 =>
      fX8_passSummer_2 a0 a1 k x6 S5
def fX8_passSummer (a0 : Nat) (a1 : Nat) (S : mT) : Option (mT) :=
  fX8_passSummer_2 a0 a1 mK (0 : Int32) S
def fX11_foresee_17 (b : Bool) : Nat → Int32 → Int32 → mT → Option (mT)
  | 0, _, _, _ => none
  | k + 1, v1, v2, S =>
    if v1 ≤ v2 then
      some S
    else
      grd (kO 0 11 && (kO 0 11 && true)) <|
      bndV (fX8_passSummer (shU b) 36 S) fun S2 =>
      bnd (v2 + (1 : Int32)) fun x3 =>
      fX11_foresee_17 b k v1 x3 S2
def fX11_foresee (b : Bool) (v1 : Int32) (S : mT) : Option (mT) :=
  grd (kC 35 36 (0 : Int32) (0 : Int32) (17 : Int32) && (kO 0 11 && (kO 0 11 && true))) <|
  bnd (sC S 35 36 (0 : Int32) (0 : Int32) (17 : Int32)) fun S1 =>
  fX11_foresee_17 b mK v1 (0 : Int32) S1
def fX11_lay (a1 : Nat) (v2 : Int32) (S : mT) : Option (mT) :=
  grd (kAL 233 (sT a1) a1 && true) <|
  bnd (if (8 : Int32) < (Int32.ofNat (kLen (sT a1))) then (8 : Int32) else (Int32.ofNat (kLen (sT a1)))) fun x1 =>
  bnd (if x1 < v2 then x1 else v2) fun x2 =>
  grd (kO 0 11 && true) <|
  bnd (sI S 0 13 x2) fun S3 =>
  grd (kC a1 186 (0 : Int32) (0 : Int32) (S3.1 0 13) && (kO 0 11 && (kO 0 11 && true))) <|
  bnd (sC S3 a1 186 (0 : Int32) (0 : Int32) (S3.1 0 13)) fun S4 =>
  some S4
def fX11_isHouse_20 (b : Bool) (s0 : Int32) (S : mT) : Option (Int32 × mT) :=
  grd (mFit .boolean s0) (some (s0, S))
def fX11_isHouse_19 (b : Bool) (S : mT) : Option (Int32 × mT) :=
  fX11_isHouse_20 b (0 : Int32) S
def fX11_isHouse (b : Bool) (v1 : Int32) (S : mT) : Option (Int32 × mT) :=
  if v1 < 0 then
    fX11_isHouse_19 b S
  else
    grd (kO (shU b) 8 && (kO 0 11 && true)) <|
    if (S.1 (shU b) 9) ≤ v1 then
      fX11_isHouse_19 b S
    else
      fX11_isHouse_20 b (1 : Int32) S
def fX2_keep_35 (a1 : Nat) (S : mT) : Option (mT) :=
  grd (kO 37 2 && true) <|
  bnd (sI S 37 5 (0 : Int32)) fun S3 =>
  bndV (fX2_copyFrom a1 S3) fun S4 =>
  some S4
def fX2_keep (a1 : Nat) (S : mT) : Option (mT) :=
  grd (kO 37 2 && true) <|
  if (40 : Int32) ≤ (S.1 37 4) then
    grd (kO 37 2 && (decide (¬ (41 : Int32) = 0) && (kO 37 2 && true))) <|
    bnd (sI S 37 3 (((S.1 37 3) + (1 : Int32)) - ((S.1 37 3) + (1 : Int32)) / (41 : Int32) * (41 : Int32))) fun S1 =>
    fX2_keep_35 a1 S1
  else
    grd (kO 37 2 && (kO 37 2 && true)) <|
    bnd (sI S 37 4 ((S.1 37 4) + (1 : Int32))) fun S2 =>
    fX2_keep_35 a1 S2
def fX11_comes_21 (b : Bool) (S : mT) : Option (Int32 × mT) :=
  some ((-1 : Int32), S)
def fX11_comes (b : Bool) (v1 : Int32) (S : mT) : Option (Int32 × mT) :=
  bndC (fX11_isHouse b v1 S) fun x2 S1 =>
  if x2 = 0 then
    fX11_comes_21 b S1
  else
    grd (kI 35 ((0 : Int32) + v1) && (kO 0 11 && true)) <|
    if (S1.1 35 (mIx ((0 : Int32) + v1))) < (7 : Int32) then
      grd (kI 35 ((0 : Int32) + v1) && (kI 35 ((0 : Int32) + v1) && (kO 0 11 && true))) <|
      bnd (sI S1 35 (mIx ((0 : Int32) + v1)) ((S1.1 35 (mIx ((0 : Int32) + v1))) + (1 : Int32))) fun S3 =>
      grd (kO 0 11 && (kO 0 11 && true)) <|
      bndV (fX2_keep 35 S3) fun S4 =>
      grd (kI 35 ((0 : Int32) + v1) && (kO 0 11 && true)) <|
      some ((S4.1 35 (mIx ((0 : Int32) + v1))), S4)
    else
      fX11_comes_21 b S1
def fX6_busyWith (v1 : Int32) (v2 : Int32) (S : mT) : Option (Int32 × mT) :=
  grd (kI 101 v2 && (kO 100 6 && (kI 104 v1 && (kO 100 6 && (kO 100 6 && true))))) <|
  bnd (if (S.1 104 (mIx v1)) < (S.1 101 (mIx v2)) then (S.1 101 (mIx v2)) else (S.1 104 (mIx v1))) fun x1 =>
  grd (kI 104 v1 && true) <|
  bnd (sI S 104 (mIx v1) x1) fun S2 =>
  grd (kI 105 v1 && (kI 102 v2 && (kO 100 6 && (kI 105 v1 && (kO 100 6 && true))))) <|
  bnd (sI S2 105 (mIx v1) ((S2.1 105 (mIx v1)) + (S2.1 102 (mIx v2)))) fun S3 =>
  grd (kI 105 v1 && (kO 100 6 && (kI 104 v1 && (kO 100 6 && true)))) <|
  some (((S3.1 104 (mIx v1)) + (S3.1 105 (mIx v1))), S3)
def fX6_putBack (v1 : Int32) (v2 : Int32) (v3 : Int32) (S : mT) : Option (mT) :=
  grd (kI 104 v1 && (kO 100 6 && true)) <|
  bnd (sI S 104 (mIx v1) v3) fun S1 =>
  grd (kI 105 v1 && (kI 102 v2 && (kO 100 6 && (kI 105 v1 && (kO 100 6 && true))))) <|
  bnd (sI S1 105 (mIx v1) ((S1.1 105 (mIx v1)) - (S1.1 102 (mIx v2)))) fun S2 =>
  some S2
def fX6_sendFrom_82 (self : Int32 → Int32 → Int32 → Int32 → mT → Option (Int32 × mT)) (rc16 : Int32 → Int32 → Int32 → Int32 → Int32 → Int32 → mT → Option (Int32 × mT)) (v1 : Int32) (v2 : Int32) (v3 : Int32) (v4 : Int32) (v5 : Int32) (v6 : Int32) (v7 : Int32) (S : mT) : Option (Int32 × mT) :=
  bndV (fX6_putBack v6 v1 v7 S) fun S8 =>
  bnd (v6 + (1 : Int32)) fun x9 =>
  rc16 v1 v2 v3 v4 v5 x9 S8
def fX6_sendFrom_97 (self : Int32 → Int32 → Int32 → Int32 → mT → Option (Int32 × mT)) (v5 : Int32) (S : mT) : Option (Int32 × mT) :=
  grd (mFit .boolean v5) (some (v5, S))
def fX6_sendFrom_16 (self : Int32 → Int32 → Int32 → Int32 → mT → Option (Int32 × mT)) : Nat → Int32 → Int32 → Int32 → Int32 → Int32 → Int32 → mT → Option (Int32 × mT)
  | 0, _, _, _, _, _, _, _ => none
  | k + 1, v1, v2, v3, v4, v5, v6, S =>
    if v2 < v6 then
      fX6_sendFrom_97 self v5 S
    else
      if v3 ≤ v6 then
        fX6_sendFrom_97 self v5 S
      else
        if v5 = 0 then
          grd (kI 104 v6 && (kO 100 6 && true)) <|
          bnd (S.1 104 (mIx v6)) fun x1 =>
          bndC (fX6_busyWith v6 v1 S) fun x3 S2 =>
          if v4 < x3 then
            fX6_sendFrom_82 self (fX6_sendFrom_16 self k) v1 v2 v3 v4 v5 v6 x1 S2
          else
            grd (kI 103 v1 && (kO 100 6 && true)) <|
            bnd (sI S2 103 (mIx v1) v6) fun S4 =>
            bnd (if v2 < (v6 + (1 : Int32)) then (v6 + (1 : Int32)) else v2) fun x5 =>
            bndC (self (v1 + (1 : Int32)) x5 v3 v4 S4) fun x7 S6 =>
            fX6_sendFrom_82 self (fX6_sendFrom_16 self k) v1 v2 v3 v4 x7 v6 x1 S6
        else
          fX6_sendFrom_97 self v5 S
def fX6_sendFrom_0 (self : Int32 → Int32 → Int32 → Int32 → mT → Option (Int32 × mT)) (v1 : Int32) (v2 : Int32) (v3 : Int32) (v4 : Int32) (S : mT) : Option (Int32 × mT) :=
  grd (kO 100 6 && true) <|
  if v1 < (S.1 100 8) then
    fX6_sendFrom_16 self mK v1 v2 v3 v4 (0 : Int32) (0 : Int32) S
  else
    some ((1 : Int32), S)
def fX6_sendFrom : Nat → Int32 → Int32 → Int32 → Int32 → mT → Option (Int32 × mT)
  | 0, _, _, _, _, _ => none
  | d + 1, v1, v2, v3, v4, S => fX6_sendFrom_0 (fX6_sendFrom d) v1 v2 v3 v4 S
def fX11_will_18 (b : Bool) (S : mT) : Option (Int32 × mT) :=
  some ((-1 : Int32), S)
def fX11_will (b : Bool) (v1 : Int32) (v2 : Int32) (S : mT) : Option (Int32 × mT) :=
  bndC (fX11_isHouse b v1 S) fun x2 S1 =>
  if x2 = 0 then
    fX11_will_18 b S1
  else
    bndC (fX11_isWithin v2 (0 : Int32) (60 : Int32) S1) fun x4 S3 =>
    if x4 = 0 then
      fX11_will_18 b S3
    else
      bndV (fX11_foresee b v2 S3) fun S5 =>
      grd (kI 36 ((0 : Int32) + v1) && (kO 0 11 && true)) <|
      some ((S5.1 36 (mIx ((0 : Int32) + v1))), S5)
def fX12_truth_9 (s0 : Int32) (S : mT) : Option (Int32 × mT) :=
  some (s0, S)
def fX12_truth (v0 : Int32) (S : mT) : Option (Int32 × mT) :=
  if v0 = 0 then
    fX12_truth_9 (0 : Int32) S
  else
    fX12_truth_9 (1 : Int32) S
def fX12_isIn_15 (s0 : Int32) (S : mT) : Option (Int32 × mT) :=
  grd (mFit .boolean s0) (some (s0, S))
def fX12_isIn_14 (S : mT) : Option (Int32 × mT) :=
  fX12_isIn_15 (0 : Int32) S
def fX12_isIn (v0 : Int32) (v1 : Int32) (v2 : Int32) (S : mT) : Option (Int32 × mT) :=
  if v0 < v1 then
    fX12_isIn_14 S
  else
    if v2 < v0 then
      fX12_isIn_14 S
    else
      fX12_isIn_15 (1 : Int32) S
def fX12_isHouse (v1 : Int32) (S : mT) : Option (Int32 × mT) :=
  grd (kO 187 12 && true) <|
  bndC (fX12_isIn v1 (0 : Int32) ((S.1 187 37) - (1 : Int32)) S) fun x2 S1 =>
  grd (mFit .boolean x2) (some (x2, S1))
def fX12_end_12 (S : mT) : Option (Int32 × mT) :=
  some ((-1 : Int32), S)
def fX12_end (v1 : Int32) (S : mT) : Option (Int32 × mT) :=
  if v1 < 0 then
    fX12_end_12 S
  else
    grd (kO 187 12 && true) <|
    if v1 ≤ (S.1 187 1) then
      grd (kO 187 12 && true) <|
      bnd (sI S 187 1 v1) fun S1 =>
      some (v1, S1)
    else
      fX12_end_12 S
def fX12_falses_36 (rc4 : Int32 → Int32 → mT → Option (Int32 × mT)) (v2 : Int32) (s0 : Int32) (s1 : Int32) (S : mT) : Option (Int32 × mT) :=
  bndC (fX12_truth s0 S) fun x2 S1 =>
  bnd (s1 ||| (x2 <<< (v2 &&& 31))) fun x3 =>
  bnd (v2 + (1 : Int32)) fun x4 =>
  rc4 x3 x4 S1
def fX12_falses_4 : Nat → Int32 → Int32 → mT → Option (Int32 × mT)
  | 0, _, _, _ => none
  | k + 1, v1, v2, S =>
    grd (kO 187 12 && true) <|
    if (S.1 187 37) ≤ v2 then
      some (v1, S)
    else
      grd (kI 208 v2 && (kO 187 12 && (kI 208 ((10 : Int32) + v2) && (kO 187 12 && true)))) <|
      if (S.1 208 (mIx ((10 : Int32) + v2))) = (S.1 208 (mIx v2)) then
        fX12_falses_36 (fX12_falses_4 k) v2 (0 : Int32) v1 S
      else
        fX12_falses_36 (fX12_falses_4 k) v2 (1 : Int32) v1 S
def fX12_falses (S : mT) : Option (Int32 × mT) :=
  fX12_falses_4 mK (0 : Int32) (0 : Int32) S
def fX12_four_3 : Nat → Int32 → Int32 → mT → Option (mT)
  | 0, _, _, _ => none
  | k + 1, v1, v2, S =>
    if v2 < 0 then
      some S
    else
      grd (kI 188 (S.1 187 1) && (kO 187 12 && (kO 187 12 && true))) <|
      bnd (sI S 188 (mIx (S.1 187 1)) ((v1 >>> (v2 &&& 31)) &&& (255 : Int32))) fun S1 =>
      grd (kO 187 12 && (kO 187 12 && true)) <|
      bnd (sI S1 187 1 ((S1.1 187 1) + (1 : Int32))) fun S2 =>
      bnd (v2 + (-8 : Int32)) fun x3 =>
      fX12_four_3 k v1 x3 S2
def fX12_four (v1 : Int32) (S : mT) : Option (mT) :=
  fX12_four_3 mK v1 (24 : Int32) S
def fX12_feed (v1 : Int32) (v2 : Int32) (v3 : Int32) (v4 : Int32) (v5 : Int32) (S : mT) : Option (Int32 × mT) :=
  grd (kO 187 12 && true) <|
  if ((S.1 187 1) + (20 : Int32)) ≤ (1600 : Int32) then
    bndV (fX12_four v1 S) fun S1 =>
    bndV (fX12_four v2 S1) fun S2 =>
    bndV (fX12_four v3 S2) fun S3 =>
    bndV (fX12_four v4 S3) fun S4 =>
    bndV (fX12_four v5 S4) fun S5 =>
    grd (kO 187 12 && true) <|
    some ((S5.1 187 1), S5)
  else
    some ((-1 : Int32), S)
def fX12_here_28 (s0 : Int32) (S : mT) : Option (Int32 × mT) :=
  some (s0, S)
def fX12_here (v1 : Int32) (S : mT) : Option (Int32 × mT) :=
  grd (kO 187 12 && (kO 187 12 && true)) <|
  if (S.1 187 5) ≤ ((S.1 187 4) + v1) then
    fX12_here_28 (-1 : Int32) S
  else
    grd (kI 188 ((S.1 187 4) + v1) && (kO 187 12 && (kO 187 12 && true))) <|
    fX12_here_28 (S.1 188 (mIx ((S.1 187 4) + v1))) S
def fX12_isDigit_17 (s0 : Int32) (S : mT) : Option (Int32 × mT) :=
  grd (mFit .boolean s0) (some (s0, S))
def fX12_isDigit_16 (S : mT) : Option (Int32 × mT) :=
  fX12_isDigit_17 (0 : Int32) S
def fX12_isDigit (v0 : Int32) (S : mT) : Option (Int32 × mT) :=
  if v0 < (48 : Int32) then
    fX12_isDigit_16 S
  else
    if (57 : Int32) < v0 then
      fX12_isDigit_16 S
    else
      fX12_isDigit_17 (1 : Int32) S
