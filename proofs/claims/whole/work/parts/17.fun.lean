def fJ6_bitCount_0f7a4 (v0 : Int32) (S : mT) : Option (Int32 × mT) :=
  bnd (v0 - ((v0.toUInt32 >>> ((1 : Int32).toUInt32 &&& Int32.toUInt32 31)).toInt32 &&& (1431655765 : Int32))) fun x1 =>
  bnd ((x1 &&& (858993459 : Int32)) + ((x1.toUInt32 >>> ((2 : Int32).toUInt32 &&& Int32.toUInt32 31)).toInt32 &&& (858993459 : Int32))) fun x2 =>
  bnd ((x2 + (x2.toUInt32 >>> ((4 : Int32).toUInt32 &&& Int32.toUInt32 31)).toInt32) &&& (252645135 : Int32)) fun x3 =>
  bnd (x3 + (x3.toUInt32 >>> ((8 : Int32).toUInt32 &&& Int32.toUInt32 31)).toInt32) fun x4 =>
  bnd (x4 + (x4.toUInt32 >>> ((16 : Int32).toUInt32 &&& Int32.toUInt32 31)).toInt32) fun x5 =>
  some ((x5 &&& (63 : Int32)), S)
def fJ7_fill_53178_5 (a0 : Nat) : Nat → Int32 → Int32 → Int32 → mT → Option (mT)
  | 0, _, _, _, _ => none
  | k + 1, v1, v2, v3, S =>
    if v3 ≤ v2 then
      some S
    else
      grd (kI a0 v2 && true) <|
      bnd (sI S a0 (mIx v2) v1) fun S2 =>
      bnd (v2 + (1 : Int32)) fun x3 =>
      fJ7_fill_53178_5 a0 k v1 x3 v3 S2
def fJ7_fill_53178 (a0 : Nat) (v1 : Int32) (S : mT) : Option (mT) :=
  grd (kAL 233 (sT a0) a0 && true) <|
  bnd (Int32.ofNat (kLen (sT a0))) fun x1 =>
  fJ7_fill_53178_5 a0 mK v1 (0 : Int32) x1 S
def fX0_join_143 (s0 : Int32) (S : mT) : Option (Int32 × mT) :=
  some (s0, S)
def fX0_join_155 (s0 : Int32) (S : mT) : Option (Int32 × mT) :=
  some (s0, S)
def fX0_join_166 (s0 : Int32) (S : mT) : Option (Int32 × mT) :=
  some (s0, S)
def fX0_join_177 (s0 : Int32) (S : mT) : Option (Int32 × mT) :=
  some (s0, S)
def fX0_join_188 (s0 : Int32) (S : mT) : Option (Int32 × mT) :=
  some (s0, S)
def fX0_join_202 (s0 : Int32) (S : mT) : Option (Int32 × mT) :=
  some (s0, S)
def fX0_join_201 (S : mT) : Option (Int32 × mT) :=
  fX0_join_202 (0 : Int32) S
def fX0_join_216 (s0 : Int32) (S : mT) : Option (Int32 × mT) :=
  some (s0, S)
def fX0_join_211 (S : mT) : Option (Int32 × mT) :=
  fX0_join_216 (1 : Int32) S
def fX0_join (v0 : Int32) (v1 : Int32) (v2 : Int32) (S : mT) : Option (Int32 × mT) :=
  if v0 = (37 : Int32) then
    if v2 = 0 then
      fX0_join_155 (0 : Int32) S
    else
      grd (decide (¬ v2 = 0) && true) <|
      fX0_join_155 (v1 - v1 / v2 * v2) S
  else
    if v0 = (38 : Int32) then
      if v1 = 0 then
        fX0_join_201 S
      else
        if v2 = 0 then
          fX0_join_201 S
        else
          fX0_join_202 (1 : Int32) S
    else
      if v0 = (39 : Int32) then
        if v1 = 0 then
          if v2 = 0 then
            fX0_join_216 (0 : Int32) S
          else
            fX0_join_211 S
        else
          fX0_join_211 S
      else
        if v0 = (40 : Int32) then
          if v1 = 0 then
            if v2 = 0 then
              fX0_join_216 (0 : Int32) S
            else
              fX0_join_211 S
          else
            fX0_join_211 S
        else
          if v0 = (41 : Int32) then
            if v1 = 0 then
              if v2 = 0 then
                fX0_join_216 (0 : Int32) S
              else
                fX0_join_211 S
            else
              fX0_join_211 S
          else
            if v0 = (42 : Int32) then
              some ((v1 * v2), S)
            else
              if v0 = (43 : Int32) then
                some ((v1 + v2), S)
              else
                if v0 = (44 : Int32) then
                  if v1 = 0 then
                    if v2 = 0 then
                      fX0_join_216 (0 : Int32) S
                    else
                      fX0_join_211 S
                  else
                    fX0_join_211 S
                else
                  if v0 = (45 : Int32) then
                    some ((v1 - v2), S)
                  else
                    if v0 = (46 : Int32) then
                      if v1 = 0 then
                        if v2 = 0 then
                          fX0_join_216 (0 : Int32) S
                        else
                          fX0_join_211 S
                      else
                        fX0_join_211 S
                    else
                      if v0 = (47 : Int32) then
                        if v2 = 0 then
                          fX0_join_143 (0 : Int32) S
                        else
                          grd (decide (¬ v2 = 0) && true) <|
                          fX0_join_143 (v1 / v2) S
                      else
                        if v0 = (48 : Int32) then
                          if v1 = 0 then
                            if v2 = 0 then
                              fX0_join_216 (0 : Int32) S
                            else
                              fX0_join_211 S
                          else
                            fX0_join_211 S
                        else
                          if v0 = (49 : Int32) then
                            if v1 = 0 then
                              if v2 = 0 then
                                fX0_join_216 (0 : Int32) S
                              else
                                fX0_join_211 S
                            else
                              fX0_join_211 S
                          else
                            if v0 = (50 : Int32) then
                              if v1 = 0 then
                                if v2 = 0 then
                                  fX0_join_216 (0 : Int32) S
                                else
                                  fX0_join_211 S
                              else
                                fX0_join_211 S
                            else
                              if v0 = (51 : Int32) then
                                if v1 = 0 then
                                  if v2 = 0 then
                                    fX0_join_216 (0 : Int32) S
                                  else
                                    fX0_join_211 S
                                else
                                  fX0_join_211 S
                              else
                                if v0 = (52 : Int32) then
                                  if v1 = 0 then
                                    if v2 = 0 then
                                      fX0_join_216 (0 : Int32) S
                                    else
                                      fX0_join_211 S
                                  else
                                    fX0_join_211 S
                                else
                                  if v0 = (53 : Int32) then
                                    if v1 = 0 then
                                      if v2 = 0 then
                                        fX0_join_216 (0 : Int32) S
                                      else
                                        fX0_join_211 S
                                    else
                                      fX0_join_211 S
                                  else
                                    if v0 = (54 : Int32) then
                                      if v1 = 0 then
                                        if v2 = 0 then
                                          fX0_join_216 (0 : Int32) S
                                        else
                                          fX0_join_211 S
                                      else
                                        fX0_join_211 S
                                    else
                                      if v0 = (55 : Int32) then
                                        if v1 = 0 then
                                          if v2 = 0 then
                                            fX0_join_216 (0 : Int32) S
                                          else
                                            fX0_join_211 S
                                        else
                                          fX0_join_211 S
                                      else
                                        if v0 = (56 : Int32) then
                                          if v1 = 0 then
                                            if v2 = 0 then
                                              fX0_join_216 (0 : Int32) S
                                            else
                                              fX0_join_211 S
                                          else
                                            fX0_join_211 S
                                        else
                                          if v0 = (57 : Int32) then
                                            if v1 = 0 then
                                              if v2 = 0 then
                                                fX0_join_216 (0 : Int32) S
                                              else
                                                fX0_join_211 S
                                            else
                                              fX0_join_211 S
                                          else
                                            if v0 = (58 : Int32) then
                                              if v1 = 0 then
                                                if v2 = 0 then
                                                  fX0_join_216 (0 : Int32) S
                                                else
                                                  fX0_join_211 S
                                              else
                                                fX0_join_211 S
                                            else
                                              if v0 = (59 : Int32) then
                                                if v1 = 0 then
                                                  if v2 = 0 then
                                                    fX0_join_216 (0 : Int32) S
                                                  else
                                                    fX0_join_211 S
                                                else
                                                  fX0_join_211 S
                                              else
                                                if v0 = (60 : Int32) then
                                                  if v2 ≤ v1 then
                                                    fX0_join_166 (0 : Int32) S
                                                  else
                                                    fX0_join_166 (1 : Int32) S
                                                else
                                                  if v0 = (61 : Int32) then
                                                    if v1 = v2 then
                                                      fX0_join_188 (1 : Int32) S
                                                    else
                                                      fX0_join_188 (0 : Int32) S
                                                  else
                                                    if v0 = (62 : Int32) then
                                                      if v1 ≤ v2 then
                                                        fX0_join_177 (0 : Int32) S
                                                      else
                                                        fX0_join_177 (1 : Int32) S
                                                    else
                                                      if v1 = 0 then
                                                        if v2 = 0 then
                                                          fX0_join_216 (0 : Int32) S
                                                        else
                                                          fX0_join_211 S
                                                      else
                                                        fX0_join_211 S
def fX0_leaf_25 (a1 : Nat) (s0 : Int32) (S : mT) : Option (Int32 × mT) :=
  some (s0, S)
def fX0_leaf (a1 : Nat) (v0 : Int32) (S : mT) : Option (Int32 × mT) :=
  bnd (v0 - (10000 : Int32)) fun x1 =>
  if 0 ≤ x1 then
    grd (kAL 233 (sT a1) a1 && true) <|
    if (Int32.ofNat (kLen (sT a1))) ≤ x1 then
      fX0_leaf_25 a1 (0 : Int32) S
    else
      grd (kI a1 x1 && true) <|
      fX0_leaf_25 a1 (S.1 a1 (mIx x1)) S
  else
    some (v0, S)
def fX0_work_130 (a0 : Nat) (a1 : Nat) (rc4 : Int32 → Int32 → mT → Option (Int32 × mT)) (v2 : Int32) (v3 : Int32) (S : mT) : Option (Int32 × mT) :=
  bnd (v3 + (1 : Int32)) fun x10 =>
  rc4 v2 x10 S
def fX0_work_87 (a0 : Nat) (a1 : Nat) (rc4 : Int32 → Int32 → mT → Option (Int32 × mT)) (v2 : Int32) (v3 : Int32) (s0 : Int32) (s1 : Int32) (S : mT) : Option (Int32 × mT) :=
  grd (kI (a0 + 2) s1 && true) <|
  bnd (sI S (a0 + 2) (mIx s1) s0) fun S11 =>
  fX0_work_130 a0 a1 rc4 v2 v3 S11
def fX0_work_152 (a0 : Nat) (a1 : Nat) (s0 : Int32) (S : mT) : Option (Int32 × mT) :=
  some (s0, S)
def fX0_work_4 (a0 : Nat) (a1 : Nat) : Nat → Int32 → Int32 → mT → Option (Int32 × mT)
  | 0, _, _, _ => none
  | k + 1, v2, v3, S =>
    grd (kO a0 0 && true) <|
    if (S.1 a0 2) ≤ v3 then
      if v2 ≤ 0 then
        fX0_work_152 a0 a1 (0 : Int32) S
      else
        grd (kI (a0 + 2) (v2 - (1 : Int32)) && (kO a0 0 && true)) <|
        fX0_work_152 a0 a1 (S.1 (a0 + 2) (mIx (v2 - (1 : Int32)))) S
    else
      grd (kI (a0 + 1) v3 && (kO a0 0 && true)) <|
      bnd (S.1 (a0 + 1) (mIx v3)) fun x1 =>
      if (20000 : Int32) ≤ x1 then
        if x1 = (20033 : Int32) then
          if v2 ≤ 0 then
            fX0_work_130 a0 a1 (fX0_work_4 a0 a1 k) v2 v3 S
          else
            grd (kO a0 0 && (kO a0 0 && true)) <|
            grd (kI (a0 + 2) (v2 - (1 : Int32)) && true) <|
            if (S.1 (a0 + 2) (mIx (v2 - (1 : Int32)))) = 0 then
              fX0_work_87 a0 a1 (fX0_work_4 a0 a1 k) v2 v3 (1 : Int32) (v2 - (1 : Int32)) S
            else
              fX0_work_87 a0 a1 (fX0_work_4 a0 a1 k) v2 v3 (0 : Int32) (v2 - (1 : Int32)) S
        else
          if v2 ≤ (1 : Int32) then
            fX0_work_130 a0 a1 (fX0_work_4 a0 a1 k) v2 v3 S
          else
            bnd (v2 + (-1 : Int32)) fun x2 =>
            grd (kO a0 0 && (kO a0 0 && true)) <|
            grd (kI (a0 + 2) x2 && (kO a0 0 && (kI (a0 + 2) (x2 - (1 : Int32)) && true))) <|
            bndC (fX0_join (x1 - (20000 : Int32)) (S.1 (a0 + 2) (mIx (x2 - (1 : Int32)))) (S.1 (a0 + 2) (mIx x2)) S) fun x4 S3 =>
            grd (kI (a0 + 2) (x2 - (1 : Int32)) && true) <|
            bnd (sI S3 (a0 + 2) (mIx (x2 - (1 : Int32))) x4) fun S5 =>
            fX0_work_130 a0 a1 (fX0_work_4 a0 a1 k) x2 v3 S5
      else
        if (30 : Int32) ≤ v2 then
          fX0_work_130 a0 a1 (fX0_work_4 a0 a1 k) v2 v3 S
        else
          grd (kO a0 0 && true) <|
          bndC (fX0_leaf a1 x1 S) fun x7 S6 =>
          grd (kI (a0 + 2) v2 && true) <|
          bnd (sI S6 (a0 + 2) (mIx v2) x7) fun S8 =>
          bnd (v2 + (1 : Int32)) fun x9 =>
          fX0_work_130 a0 a1 (fX0_work_4 a0 a1 k) x9 v3 S8
def fX0_work (a0 : Nat) (a1 : Nat) (S : mT) : Option (Int32 × mT) :=
  fX0_work_4 a0 a1 mK (0 : Int32) (0 : Int32) S
def fX10_leftBySeeing_4 : Nat → Int32 → Int32 → Int32 → mT → Option (Int32 × mT)
  | 0, _, _, _, _ => none
  | k + 1, v1, v2, v3, S =>
    if (7 : Int32) < v3 then
      some (v2, S)
    else
      grd (kI (rowR 121 (mIx v1)) v3 && (kR 121 v1 && (kO 120 10 && true))) <|
      bnd (if v2 < (S.1 (rowR 121 (mIx v1)) (mIx v3)) then (S.1 (rowR 121 (mIx v1)) (mIx v3)) else v2) fun x1 =>
      bnd (v3 + (1 : Int32)) fun x2 =>
      fX10_leftBySeeing_4 k v1 x1 x2 S
def fX10_leftBySeeing (v1 : Int32) (S : mT) : Option (Int32 × mT) :=
  fX10_leftBySeeing_4 mK v1 (0 : Int32) (0 : Int32) S
def fX10_bestToSee_27 (rc4 : Int32 → Int32 → mT → Option (Int32 × mT)) (v1 : Int32) (v2 : Int32) (S : mT) : Option (Int32 × mT) :=
  bnd (v2 + (1 : Int32)) fun x5 =>
  rc4 v1 x5 S
def fX10_bestToSee_4 : Nat → Int32 → Int32 → mT → Option (Int32 × mT)
  | 0, _, _, _ => none
  | k + 1, v1, v2, S =>
    grd (kO 120 10 && true) <|
    if (S.1 120 9) ≤ v2 then
      some (v1, S)
    else
      bndC (fX10_leftBySeeing v2 S) fun x2 S1 =>
      bndC (fX10_leftBySeeing v1 S1) fun x4 S3 =>
      if x4 ≤ x2 then
        fX10_bestToSee_27 (fX10_bestToSee_4 k) v1 v2 S3
      else
        fX10_bestToSee_27 (fX10_bestToSee_4 k) v2 v2 S3
def fX10_bestToSee (S : mT) : Option (Int32 × mT) :=
  fX10_bestToSee_4 mK (0 : Int32) (1 : Int32) S
def fX10_highest_5 : Nat → Int32 → Int32 → Int32 → mT → Option (Int32 × mT)
  | 0, _, _, _, _ => none
  | k + 1, v1, v2, v3, S =>
    grd (kI 137 v1 && (kO 129 9 && (kO 120 10 && true))) <|
    if (S.1 137 (mIx v1)) ≤ v3 then
      some (v2, S)
    else
      grd (kI (rowR 131 (mIx v1)) v3 && (kR 131 v1 && (kO 129 9 && (kO 120 10 && true)))) <|
      bnd (S.1 (rowR 131 (mIx v1)) (mIx v3)) fun x1 =>
      grd (kI 128 (x1 ||| ((1 : Int32) <<< (v1 &&& 31))) && (kO 120 10 && true)) <|
      grd (kI 130 x1 && (kO 129 9 && (kO 120 10 && true))) <|
      bnd (if ((S.1 128 (mIx (x1 ||| ((1 : Int32) <<< (v1 &&& 31))))) - (S.1 130 (mIx x1))) < v2 then ((S.1 128 (mIx (x1 ||| ((1 : Int32) <<< (v1 &&& 31))))) - (S.1 130 (mIx x1))) else v2) fun x2 =>
      bnd (v3 + (1 : Int32)) fun x3 =>
      fX10_highest_5 k v1 x2 x3 S
def fX10_highest (v1 : Int32) (S : mT) : Option (Int32 × mT) :=
  fX10_highest_5 mK v1 (7 : Int32) (0 : Int32) S
def fX10_lowest_4 : Nat → Int32 → Int32 → Int32 → mT → Option (Int32 × mT)
  | 0, _, _, _, _ => none
  | k + 1, v1, v2, v3, S =>
    grd (kI 137 v1 && (kO 129 9 && (kO 120 10 && true))) <|
    if (S.1 137 (mIx v1)) ≤ v3 then
      some (v2, S)
    else
      grd (kI (rowR 131 (mIx v1)) v3 && (kR 131 v1 && (kO 129 9 && (kO 120 10 && true)))) <|
      bnd (S.1 (rowR 131 (mIx v1)) (mIx v3)) fun x1 =>
      grd (kI 127 (x1 ||| ((1 : Int32) <<< (v1 &&& 31))) && (kO 120 10 && true)) <|
      grd (kI 130 x1 && (kO 129 9 && (kO 120 10 && true))) <|
      bnd (if v2 < ((S.1 127 (mIx (x1 ||| ((1 : Int32) <<< (v1 &&& 31))))) - (S.1 130 (mIx x1))) then ((S.1 127 (mIx (x1 ||| ((1 : Int32) <<< (v1 &&& 31))))) - (S.1 130 (mIx x1))) else v2) fun x2 =>
      bnd (v3 + (1 : Int32)) fun x3 =>
      fX10_lowest_4 k v1 x2 x3 S
def fX10_lowest (v1 : Int32) (S : mT) : Option (Int32 × mT) :=
  fX10_lowest_4 mK v1 (0 : Int32) (0 : Int32) S
def fX9_setHeads_2 (a0 : Nat) : Nat → Int32 → Int32 → Int32 → mT → Option (mT)
  | 0, _, _, _, _ => none
  | k + 1, v1, v2, v3, S =>
    if ((1 : Int32) <<< (v1 &&& 31)) ≤ v3 then
      some S
    else
      grd (kO a0 9 && (kO a0 9 && true)) <|
      grd (kI (a0 + 1) (v3 ||| ((1 : Int32) <<< (v1 &&& 31))) && (kI (a0 + 1) v3 && true)) <|
      bnd (sI S (a0 + 1) (mIx (v3 ||| ((1 : Int32) <<< (v1 &&& 31)))) ((S.1 (a0 + 1) (mIx v3)) + v2)) fun S1 =>
      bnd (v3 + (1 : Int32)) fun x2 =>
      fX9_setHeads_2 a0 k v1 v2 x2 S1
def fX9_setHeads (a0 : Nat) (v1 : Int32) (v2 : Int32) (S : mT) : Option (mT) :=
  fX9_setHeads_2 a0 mK v1 v2 (0 : Int32) S
def fX10_countFrom_65 (self : Int32 → mT → Option (Int32 × mT)) (rc23 : Int32 → Int32 → Int32 → Int32 → mT → Option (Int32 × mT)) (v1 : Int32) (v2 : Int32) (v4 : Int32) (v5 : Int32) (v6 : Int32) (S : mT) : Option (Int32 × mT) :=
  grd (kI (rowR 121 (mIx v1)) v5 && (kI (rowR 121 (mIx v1)) v5 && true)) <|
  bnd (sI S (rowR 121 (mIx v1)) (mIx v5) ((S.1 (rowR 121 (mIx v1)) (mIx v5)) + v6)) fun S9 =>
  bnd (v2 + v6) fun x10 =>
  bnd (v5 + (1 : Int32)) fun x11 =>
  rc23 v1 x10 v4 x11 S9
def fX10_countFrom_23 (self : Int32 → mT → Option (Int32 × mT)) : Nat → Int32 → Int32 → Int32 → Int32 → mT → Option (Int32 × mT)
  | 0, _, _, _, _, _ => none
  | k + 1, v1, v2, v4, v5, S =>
    if v4 < v5 then
      some (v2, S)
    else
      grd (kO 120 10 && true) <|
      bnd (S.1 120 13) fun x5 =>
      grd (kO 120 10 && true) <|
      if (S.1 120 12) ≤ (v1 + (1 : Int32)) then
        fX10_countFrom_65 self (fX10_countFrom_23 self k) v1 v2 v4 v5 x5 S
      else
        grd (kO 120 10 && true) <|
        bndV (fX9_setHeads 129 v1 v5 S) fun S6 =>
        bndC (self (v1 + (1 : Int32)) S6) fun x8 S7 =>
        fX10_countFrom_65 self (fX10_countFrom_23 self k) v1 v2 v4 v5 x8 S7
def fX10_countFrom_0 (self : Int32 → mT → Option (Int32 × mT)) (v1 : Int32) (S : mT) : Option (Int32 × mT) :=
  grd (kR 121 v1 && (kO 120 10 && true)) <|
  bndC (fX10_highest v1 S) fun x2 S1 =>
  bndC (fX10_lowest v1 S1) fun x4 S3 =>
  fX10_countFrom_23 self mK v1 (0 : Int32) x2 x4 S3
def fX10_countFrom : Nat → Int32 → mT → Option (Int32 × mT)
  | 0, _, _ => none
  | d + 1, v1, S => fX10_countFrom_0 (fX10_countFrom d) v1 S
def fX10_fewestIn_2 : Nat → Int32 → Int32 → mT → Option (Int32 × mT)
  | 0, _, _, _ => none
  | k + 1, v1, v2, S =>
    if (7 : Int32) < v2 then
      some ((-1 : Int32), S)
    else
      grd (kI (rowR 121 (mIx v1)) v2 && (kR 121 v1 && (kO 120 10 && true))) <|
      if (S.1 (rowR 121 (mIx v1)) (mIx v2)) ≤ 0 then
        bnd (v2 + (1 : Int32)) fun x1 =>
        fX10_fewestIn_2 k v1 x1 S
      else
        some (v2, S)
def fX10_fewestIn (v1 : Int32) (S : mT) : Option (Int32 × mT) :=
  fX10_fewestIn_2 mK v1 (0 : Int32) S
def fX10_gatherFrom_38 (self : Int32 → Int32 → mT → Option (mT)) (S : mT) : Option (mT) :=
  some S
def fX10_gatherFrom_78 (self : Int32 → Int32 → mT → Option (mT)) (rc52 : Int32 → Int32 → Int32 → Int32 → mT → Option (mT)) (v1 : Int32) (v2 : Int32) (v3 : Int32) (v4 : Int32) (S : mT) : Option (mT) :=
  bndV (self (v1 + (1 : Int32)) (v2 ||| (v4 <<< (((3 : Int32) * v1) &&& 31))) S) fun S8 =>
  bnd (v4 + (1 : Int32)) fun x9 =>
  rc52 v1 v2 v3 x9 S8
def fX10_gatherFrom_52 (self : Int32 → Int32 → mT → Option (mT)) : Nat → Int32 → Int32 → Int32 → Int32 → mT → Option (mT)
  | 0, _, _, _, _, _ => none
  | k + 1, v1, v2, v3, v4, S =>
    if v3 < v4 then
      some S
    else
      grd (kO 120 10 && true) <|
      if (S.1 120 12) ≤ (v1 + (1 : Int32)) then
        fX10_gatherFrom_78 self (fX10_gatherFrom_52 self k) v1 v2 v3 v4 S
      else
        grd (kO 120 10 && true) <|
        bndV (fX9_setHeads 129 v1 v4 S) fun S7 =>
        fX10_gatherFrom_78 self (fX10_gatherFrom_52 self k) v1 v2 v3 v4 S7
def fX10_gatherFrom_0 (self : Int32 → Int32 → mT → Option (mT)) (v1 : Int32) (v2 : Int32) (S : mT) : Option (mT) :=
  grd (kO 120 10 && true) <|
  if v1 < (S.1 120 9) then
    bndC (fX10_highest v1 S) fun x2 S1 =>
    bndC (fX10_lowest v1 S1) fun x4 S3 =>
    fX10_gatherFrom_52 self mK v1 v2 x2 x4 S3
  else
    grd (kO 120 10 && true) <|
    if (4096 : Int32) ≤ (S.1 120 6) then
      fX10_gatherFrom_38 self S
    else
      grd (kI 138 (S.1 120 6) && (kO 120 10 && (kO 120 10 && true))) <|
      bnd (sI S 138 (mIx (S.1 120 6)) v2) fun S5 =>
      grd (kO 120 10 && (kO 120 10 && true)) <|
      bnd (sI S5 120 6 ((S5.1 120 6) + (1 : Int32))) fun S6 =>
      fX10_gatherFrom_38 self S6
def fX10_gatherFrom : Nat → Int32 → Int32 → mT → Option (mT)
  | 0, _, _, _ => none
  | d + 1, v1, v2, S => fX10_gatherFrom_0 (fX10_gatherFrom d) v1 v2 S
def fX10_partOf_38 (rc5 : Int32 → Int32 → Int32 → Int32 → mT → Option (Int32 × mT)) (v1 : Int32) (v2 : Int32) (v3 : Int32) (v4 : Int32) (S : mT) : Option (Int32 × mT) :=
  bnd (v4 + (1 : Int32)) fun x2 =>
  rc5 v1 v2 v3 x2 S
def fX10_partOf_5 : Nat → Int32 → Int32 → Int32 → Int32 → mT → Option (Int32 × mT)
  | 0, _, _, _, _, _ => none
  | k + 1, v1, v2, v3, v4, S =>
    grd (kO 120 10 && true) <|
    if (S.1 120 9) ≤ v4 then
      some ((v3 &&& (4095 : Int32)), S)
    else
      if ((v2 >>> (v4 &&& 31)) &&& (1 : Int32)) = (1 : Int32) then
        bnd ((v3 <<< ((3 : Int32) &&& 31)) ||| ((v1 >>> (((3 : Int32) * v4) &&& 31)) &&& (7 : Int32))) fun x1 =>
        fX10_partOf_38 (fX10_partOf_5 k) v1 v2 x1 v4 S
      else
        fX10_partOf_38 (fX10_partOf_5 k) v1 v2 v3 v4 S
def fX10_partOf (v1 : Int32) (v2 : Int32) (S : mT) : Option (Int32 × mT) :=
  fX10_partOf_5 mK v1 v2 (0 : Int32) (0 : Int32) S
def fX10_tellsApart_12 : Nat → Int32 → Int32 → mT → Option (Int32 × mT)
  | 0, _, _, _ => none
  | k + 1, v1, v2, S =>
    grd (kO 120 10 && true) <|
    if (S.1 120 6) ≤ v2 then
      some ((1 : Int32), S)
    else
      grd (kI 138 v2 && (kO 120 10 && true)) <|
      bndC (fX10_partOf (S.1 138 (mIx v2)) v1 S) fun x3 S2 =>
      grd (kO 120 10 && (kI 139 x3 && (kO 120 10 && true))) <|
      if (S2.1 139 (mIx x3)) = (S2.1 120 7) then
        some ((0 : Int32), S2)
      else
        grd (kI 139 x3 && (kO 120 10 && (kO 120 10 && true))) <|
        bnd (sI S2 139 (mIx x3) (S2.1 120 7)) fun S4 =>
        bnd (v2 + (1 : Int32)) fun x5 =>
        fX10_tellsApart_12 k v1 x5 S4
def fX10_tellsApart (v1 : Int32) (S : mT) : Option (Int32 × mT) :=
  grd (kO 120 10 && (kO 120 10 && true)) <|
  bnd (sI S 120 7 ((S.1 120 7) + (1 : Int32))) fun S1 =>
  fX10_tellsApart_12 mK v1 (0 : Int32) S1
def fX10_findTelling_33 (v1 : Int32) (S : mT) : Option (Int32 × mT) :=
  some (v1, S)
def fX10_findTelling_93 (rc48 : Int32 → Int32 → mT → Option (Int32 × mT)) (rc58 : Int32 → Int32 → Int32 → mT → Option (Int32 × mT)) (v1 : Int32) (v2 : Int32) (v3 : Int32) (S : mT) : Option (Int32 × mT) :=
  bnd (v3 + (1 : Int32)) fun x9 =>
  rc58 v1 v2 x9 S
def fX10_findTelling_99 (rc48 : Int32 → Int32 → mT → Option (Int32 × mT)) (v1 : Int32) (v2 : Int32) (S : mT) : Option (Int32 × mT) :=
  bnd (v2 + (1 : Int32)) fun x8 =>
  rc48 v1 x8 S
def fX10_findTelling_58 (rc48 : Int32 → Int32 → mT → Option (Int32 × mT)) : Nat → Int32 → Int32 → Int32 → mT → Option (Int32 × mT)
  | 0, _, _, _, _ => none
  | k + 1, v1, v2, v3, S =>
    if v1 ≤ v3 then
      fX10_findTelling_99 rc48 v1 v2 S
    else
      grd (kO 120 10 && true) <|
      if ((1 : Int32) <<< (((3 : Int32) * v2) &&& 31)) < (S.1 120 8) then
        fX10_findTelling_99 rc48 v1 v2 S
      else
        bndC (fJ6_bitCount_0f7a4 v3 S) fun x5 S4 =>
        if x5 = v2 then
          bndC (fX10_tellsApart v3 S4) fun x7 S6 =>
          if x7 = 0 then
            fX10_findTelling_93 rc48 (fX10_findTelling_58 rc48 k) v1 v2 v3 S6
          else
            some (v3, S6)
        else
          fX10_findTelling_93 rc48 (fX10_findTelling_58 rc48 k) v1 v2 v3 S4
def fX10_findTelling_48 : Nat → Int32 → Int32 → mT → Option (Int32 × mT)
  | 0, _, _, _ => none
  | k + 1, v1, v2, S =>
    grd (kO 120 10 && true) <|
    if (S.1 120 9) ≤ v2 then
      some (v1, S)
    else
      fX10_findTelling_58 (fX10_findTelling_48 k) mK v1 v2 (0 : Int32) S
def fX10_findTelling (S : mT) : Option (Int32 × mT) :=
  grd (kO 120 10 && true) <|
  bnd (((1 : Int32) <<< ((S.1 120 9) &&& 31)) - (1 : Int32)) fun x1 =>
  grd (kO 120 10 && true) <|
  if (S.1 120 9) = 0 then
    fX10_findTelling_33 x1 S
  else
    grd (kO 120 10 && (kO 120 10 && true)) <|
    if (S.1 120 8) ≤ ((1 : Int32) <<< (((3 : Int32) * ((S.1 120 9) - (1 : Int32))) &&& 31)) then
      grd (kO 120 10 && true) <|
      bnd (sI S 120 6 (0 : Int32)) fun S2 =>
      bndV (fX10_gatherFrom 16 (0 : Int32) (0 : Int32) S2) fun S3 =>
      fX10_findTelling_48 mK x1 (0 : Int32) S3
    else
      fX10_findTelling_33 x1 S
def fX10_takeReports_102 (rc21 : Int32 → Int32 → mT → Option (Int32 × mT)) (v2 : Int32) (v3 : Int32) (S : mT) : Option (Int32 × mT) :=
  bnd (v3 + (1 : Int32)) fun x9 =>
  rc21 v2 x9 S
def fX10_takeReports_21 : Nat → Int32 → Int32 → mT → Option (Int32 × mT)
  | 0, _, _, _ => none
  | k + 1, v2, v3, S =>
    grd (kO 114 5 && true) <|
    if (S.1 114 5) ≤ v3 then
      some (v2, S)
    else
      grd (kO 120 10 && true) <|
      if (((S.1 120 10) >>> (v3 &&& 31)) &&& (1 : Int32)) = (1 : Int32) then
        grd (kI 115 v3 && (kO 114 5 && true)) <|
        bnd (S.1 115 (mIx v3)) fun x3 =>
        grd (kO 114 5 && (kI 127 x3 && (kO 120 10 && (kO 120 10 && true)))) <|
        grd (kI 116 v3 && true) <|
        bnd (if (S.1 127 (mIx x3)) < (S.1 116 (mIx v3)) then (S.1 116 (mIx v3)) else (S.1 127 (mIx x3))) fun x4 =>
        grd (kI 127 x3 && true) <|
        bnd (sI S 127 (mIx x3) x4) fun S5 =>
        grd (kO 114 5 && (kI 128 x3 && (kO 120 10 && (kO 120 10 && true)))) <|
        grd (kI 117 v3 && true) <|
        bnd (if (S5.1 117 (mIx v3)) < (S5.1 128 (mIx x3)) then (S5.1 117 (mIx v3)) else (S5.1 128 (mIx x3))) fun x6 =>
        grd (kI 128 x3 && true) <|
        bnd (sI S5 128 (mIx x3) x6) fun S7 =>
        bnd (v2 ||| ((1 : Int32) <<< (x3 &&& 31))) fun x8 =>
        fX10_takeReports_102 (fX10_takeReports_21 k) x8 v3 S7
      else
        fX10_takeReports_102 (fX10_takeReports_21 k) v2 v3 S
def fX10_takeReports (S : mT) : Option (Int32 × mT) :=
  grd (kO 120 10 && true) <|
  bndV (fJ7_fill_53178 127 (0 : Int32) S) fun S1 =>
  grd (kO 120 10 && true) <|
  bndV (fJ7_fill_53178 128 (35 : Int32) S1) fun S2 =>
  fX10_takeReports_21 mK (0 : Int32) (0 : Int32) S2
def fX9_list_79 (a0 : Nat) (rc5 : Int32 → Int32 → Int32 → Int32 → mT → Option (Int32 × mT)) (rc22 : Int32 → Int32 → Int32 → Int32 → Int32 → mT → Option (Int32 × mT)) (v1 : Int32) (v2 : Int32) (v3 : Int32) (v4 : Int32) (v5 : Int32) (S : mT) : Option (Int32 × mT) :=
  bnd (v5 + (1 : Int32)) fun x6 =>
  rc22 v1 v2 v3 v4 x6 S
def fX9_list_22 (a0 : Nat) (rc5 : Int32 → Int32 → Int32 → Int32 → mT → Option (Int32 × mT)) : Nat → Int32 → Int32 → Int32 → Int32 → Int32 → mT → Option (Int32 × mT)
  | 0, _, _, _, _, _, _ => none
  | k + 1, v1, v2, v3, v4, v5, S =>
    if ((1 : Int32) <<< (v4 &&& 31)) ≤ v5 then
      bnd (v4 + (1 : Int32)) fun x2 =>
      rc5 v1 v2 v3 x2 S
    else
      if ((v1 >>> ((v5 ||| ((1 : Int32) <<< (v4 &&& 31))) &&& 31)) &&& (1 : Int32)) = (1 : Int32) then
        grd (kI (rowR (a0 + 2) (mIx v4)) (S.1 (a0 + 8) (mIx v4)) && (kI (a0 + 8) v4 && (kO a0 9 && (kR (a0 + 2) v4 && (kO a0 9 && true))))) <|
        bnd (sI S (rowR (a0 + 2) (mIx v4)) (mIx (S.1 (a0 + 8) (mIx v4))) v5) fun S3 =>
        grd (kI (a0 + 8) v4 && (kI (a0 + 8) v4 && (kO a0 9 && true))) <|
        bnd (sI S3 (a0 + 8) (mIx v4) ((S3.1 (a0 + 8) (mIx v4)) + (1 : Int32))) fun S4 =>
        bnd (v4 + (1 : Int32)) fun x5 =>
        fX9_list_79 a0 rc5 (fX9_list_22 a0 rc5 k) v1 v2 x5 v4 v5 S4
      else
        fX9_list_79 a0 rc5 (fX9_list_22 a0 rc5 k) v1 v2 v3 v4 v5 S
def fX9_list_5 (a0 : Nat) : Nat → Int32 → Int32 → Int32 → Int32 → mT → Option (Int32 × mT)
  | 0, _, _, _, _, _ => none
  | k + 1, v1, v2, v3, v4, S =>
    if v2 ≤ v4 then
      some (v3, S)
    else
      grd (kI (a0 + 8) v4 && (kO a0 9 && true)) <|
      bnd (sI S (a0 + 8) (mIx v4) (0 : Int32)) fun S1 =>
      fX9_list_22 a0 (fX9_list_5 a0 k) mK v1 v2 v3 v4 (0 : Int32) S1
def fX9_list (a0 : Nat) (v1 : Int32) (v2 : Int32) (S : mT) : Option (Int32 × mT) :=
  fX9_list_5 a0 mK v1 v2 (0 : Int32) (0 : Int32) S
def fX10_learn_136 : Nat → Int32 → mT → Option (mT)
  | 0, _, _ => none
  | k + 1, v4, S =>
    grd (kO 120 10 && true) <|
    if (S.1 120 9) ≤ v4 then
      some S
    else
      grd (decide (¬ (8 : Int32) = 0) && (kO 120 10 && (kR 121 v4 && (kO 120 10 && true)))) <|
      bndV (fJ7_fill_53178 (rowR 121 (mIx v4)) ((S.1 120 8) / (8 : Int32)) S) fun S17 =>
      bnd (v4 + (1 : Int32)) fun x18 =>
      fX10_learn_136 k x18 S17
def fX10_learn_127 (s0 : Int32) (S : mT) : Option (mT) :=
  grd (kO 120 10 && true) <|
  bnd (sI S 120 8 s0) fun S15 =>
  grd (kO 120 10 && true) <|
  bnd (S15.1 120 12) fun x16 =>
  fX10_learn_136 mK x16 S15
def fX10_learn_67 : Nat → Int32 → mT → Option (mT)
  | 0, _, _ => none
  | k + 1, v4, S =>
    if (5 : Int32) ≤ v4 then
      grd (kO 120 10 && (kO 120 10 && true)) <|
      grd (kO 120 10 && true) <|
      bnd (sI S 120 13 ((1 : Int32) <<< (((3 : Int32) * ((S.1 120 9) - (S.1 120 12))) &&& 31))) fun S10 =>
      grd (kO 120 10 && true) <|
      if (S10.1 120 12) = 0 then
        grd (kO 120 10 && true) <|
        fX10_learn_127 (S10.1 120 13) S10
      else
        bndC (fX10_countFrom 16 (0 : Int32) S10) fun x12 S11 =>
        fX10_learn_127 x12 S11
    else
      grd (kR 121 v4 && (kO 120 10 && true)) <|
      bndV (fJ7_fill_53178 (rowR 121 (mIx v4)) (0 : Int32) S) fun S13 =>
      bnd (v4 + (1 : Int32)) fun x14 =>
      fX10_learn_67 k x14 S13
def fX10_learn_24 (v2 : Int32) (v3 : Int32) (S : mT) : Option (mT) :=
  grd (mFit .boolean (1 : Int32) && (kO 120 10 && true)) <|
  bnd (sI S 120 14 (1 : Int32)) fun S1 =>
  grd (kO 120 10 && true) <|
  bnd (sI S1 120 10 v2) fun S2 =>
  grd (kO 120 10 && true) <|
  bnd (sI S2 120 9 v3) fun S3 =>
  grd (kO 120 10 && true) <|
  bnd (sI S3 120 11 (-1 : Int32)) fun S4 =>
  grd (kO 120 10 && true) <|
  bndC (fX10_takeReports S4) fun x6 S5 =>
  grd (kO 120 10 && true) <|
  bndC (fX9_list 129 x6 (S5.1 120 9) S5) fun x8 S7 =>
  grd (kO 120 10 && true) <|
  bnd (sI S7 120 12 x8) fun S9 =>
  fX10_learn_67 mK (0 : Int32) S9
def fX10_learn (v2 : Int32) (v3 : Int32) (S : mT) : Option (mT) :=
  grd (kO 120 10 && true) <|
  if (S.1 120 14) = 0 then
    fX10_learn_24 v2 v3 S
  else
    grd (kO 120 10 && true) <|
    if (S.1 120 10) = v2 then
      grd (kO 120 10 && true) <|
      if (S.1 120 9) = v3 then
        some S
      else
        fX10_learn_24 v2 v3 S
    else
      fX10_learn_24 v2 v3 S
def fX10_mostIn_3 : Nat → Int32 → Int32 → mT → Option (Int32 × mT)
  | 0, _, _, _ => none
  | k + 1, v1, v2, S =>
    if v2 < 0 then
      some ((-1 : Int32), S)
    else
      grd (kI (rowR 121 (mIx v1)) v2 && (kR 121 v1 && (kO 120 10 && true))) <|
      if (S.1 (rowR 121 (mIx v1)) (mIx v2)) ≤ 0 then
        bnd (v2 + (-1 : Int32)) fun x1 =>
        fX10_mostIn_3 k v1 x1 S
      else
        some (v2, S)
def fX10_mostIn (v1 : Int32) (S : mT) : Option (Int32 × mT) :=
  fX10_mostIn_3 mK v1 (7 : Int32) S
def fX10_tellingSet_16 (S : mT) : Option (Int32 × mT) :=
  grd (kO 120 10 && true) <|
  some ((S.1 120 11), S)
def fX10_tellingSet (S : mT) : Option (Int32 × mT) :=
  grd (kO 120 10 && true) <|
  if (S.1 120 11) = (-1 : Int32) then
    bndC (fX10_findTelling S) fun x2 S1 =>
    grd (kO 120 10 && true) <|
    bnd (sI S1 120 11 x2) fun S3 =>
    fX10_tellingSet_16 S3
  else
    fX10_tellingSet_16 S
def fX8_unitsOfLaws (a0 : Nat) (S : mT) : Option (Int32 × mT) :=
  grd (kO (a0 + 12) 0 && (kO a0 8 && (kO (a0 + 9) 0 && (kO a0 8 && (kO (a0 + 6) 0 && (kO a0 8 && true)))))) <|
  some ((((S.1 (a0 + 6) 3) + (S.1 (a0 + 9) 3)) + (S.1 (a0 + 12) 3)), S)
def fX11_about (b : Bool) (v1 : Int32) (S : mT) : Option (Int32 × mT) :=
  if v1 = (0 : Int32) then
    grd (kO (shU b) 8 && (kO 0 11 && true)) <|
    some ((S.1 (shU b) 9), S)
  else
    if v1 = (1 : Int32) then
      grd (kI 35 (15 : Int32) && (kO 0 11 && true)) <|
      some ((S.1 35 (mIx (15 : Int32))), S)
    else
      if v1 = (2 : Int32) then
        grd (kI 35 (16 : Int32) && (kO 0 11 && true)) <|
        some ((S.1 35 (mIx (16 : Int32))), S)
      else
        if v1 = (3 : Int32) then
          grd (kO 37 2 && (kO 0 11 && true)) <|
          some ((S.1 37 4), S)
        else
          if v1 = (4 : Int32) then
            grd (kO 37 2 && (kO 0 11 && true)) <|
            some ((S.1 37 5), S)
          else
            if v1 = (5 : Int32) then
              grd (kO 114 5 && (kO 0 11 && true)) <|
              some ((S.1 114 5), S)
            else
              if v1 = (6 : Int32) then
                grd (kO 0 11 && true) <|
                some ((S.1 0 14), S)
              else
                if v1 = (7 : Int32) then
                  grd (kO 1 4 && (kO 0 11 && true)) <|
                  some ((S.1 1 1), S)
                else
                  if v1 = (8 : Int32) then
                    grd (kO 0 11 && true) <|
                    bndC (fX8_unitsOfLaws (shU b) S) fun x2 S1 =>
                    some (x2, S1)
                  else
                    if v1 = (9 : Int32) then
                      grd (kO 0 11 && true) <|
                      some ((S.1 0 13), S)
                    else
                      some ((-1 : Int32), S)
def fX11_allBowls_4 (b : Bool) (a1 : Nat) : Nat → Int32 → Int32 → mT → Option (Int32 × mT)
  | 0, _, _, _ => none
  | k + 1, v2, v3, S =>
    grd (kO (shU b) 8 && (kO 0 11 && true)) <|
    if (S.1 (shU b) 9) ≤ v3 then
      some (v2, S)
    else
      grd (kI a1 ((10 : Int32) + v3) && true) <|
      bnd (v2 + (S.1 a1 (mIx ((10 : Int32) + v3)))) fun x1 =>
      bnd (v3 + (1 : Int32)) fun x2 =>
      fX11_allBowls_4 b a1 k x1 x2 S
def fX11_allBowls (b : Bool) (a1 : Nat) (S : mT) : Option (Int32 × mT) :=
  fX11_allBowls_4 b a1 mK (0 : Int32) (0 : Int32) S
def fX11_isWithin_15 (s0 : Int32) (S : mT) : Option (Int32 × mT) :=
  grd (mFit .boolean s0) (some (s0, S))
def fX11_isWithin_14 (S : mT) : Option (Int32 × mT) :=
  fX11_isWithin_15 (0 : Int32) S
def fX11_isWithin (v0 : Int32) (v1 : Int32) (v2 : Int32) (S : mT) : Option (Int32 × mT) :=
  if v0 < v1 then
    fX11_isWithin_14 S
  else
    if v2 < v0 then
      fX11_isWithin_14 S
    else
      fX11_isWithin_15 (1 : Int32) S
def fX2_openBox (a2 : Nat) (v1 : Int32) (S : mT) : Option (mT) :=
  grd (kC (rowR 80 (mIx v1)) a2 (0 : Int32) (0 : Int32) (17 : Int32) && (kR 80 v1 && (kO 37 2 && true))) <|
  bnd (sC S (rowR 80 (mIx v1)) a2 (0 : Int32) (0 : Int32) (17 : Int32)) fun S1 =>
  some S1
def fX2_copyFrom (a1 : Nat) (S : mT) : Option (mT) :=
  grd (kO 37 2 && (kO 37 2 && (kO 37 2 && true))) <|
  grd (kC a1 (rowR 38 (mIx (((S.1 37 3) + (S.1 37 4)) - ((S.1 37 3) + (S.1 37 4)) / (41 : Int32) * (41 : Int32)))) (0 : Int32) (0 : Int32) (17 : Int32) && (kR 38 (((S.1 37 3) + (S.1 37 4)) - ((S.1 37 3) + (S.1 37 4)) / (41 : Int32) * (41 : Int32)) && (decide (¬ (41 : Int32) = 0) && true))) <|
  bnd (sC S a1 (rowR 38 (mIx (((S.1 37 3) + (S.1 37 4)) - ((S.1 37 3) + (S.1 37 4)) / (41 : Int32) * (41 : Int32)))) (0 : Int32) (0 : Int32) (17 : Int32)) fun S1 =>
  some S1
def fX2_startFrom (a1 : Nat) (S : mT) : Option (mT) :=
  grd (kO 37 2 && true) <|
  bnd (sI S 37 3 (0 : Int32)) fun S1 =>
  grd (kO 37 2 && true) <|
  bnd (sI S1 37 4 (0 : Int32)) fun S2 =>
  grd (kO 37 2 && true) <|
  bnd (sI S2 37 5 (0 : Int32)) fun S3 =>
  bndV (fX2_copyFrom a1 S3) fun S4 =>
  some S4
def fX11_back_21 (S : mT) : Option (Int32 × mT) :=
  some ((-1 : Int32), S)
def fX11_back (v1 : Int32) (S : mT) : Option (Int32 × mT) :=
  bndC (fX11_isWithin v1 (0 : Int32) (2 : Int32) S) fun x2 S1 =>
  if x2 = 0 then
    fX11_back_21 S1
  else
    grd (kB 84 v1 && (kO 37 2 && (kO 0 11 && true))) <|
    if (S1.1 84 (mIx v1)) = 0 then
      fX11_back_21 S1
    else
      grd (kO 0 11 && (kO 0 11 && true)) <|
      bndV (fX2_openBox 35 v1 S1) fun S3 =>
      grd (kO 0 11 && (kO 0 11 && true)) <|
      bndV (fX2_startFrom 35 S3) fun S4 =>
      grd (kI 35 (15 : Int32) && (kO 0 11 && true)) <|
      some ((S4.1 35 (mIx (15 : Int32))), S4)
def fX11_limited (v0 : Int32) (v1 : Int32) (v2 : Int32) (S : mT) : Option (Int32 × mT) :=
  bnd (if v0 < v2 then v0 else v2) fun x1 =>
  bnd (if v1 < x1 then x1 else v1) fun x2 =>
  some (x2, S)
def fX8_setValues (a0 : Nat) (v1 : Int32) (v2 : Int32) (v3 : Int32) (v4 : Int32) (v5 : Int32) (v6 : Int32) (S : mT) : Option (mT) :=
  grd (kI (a0 + 15) (0 : Int32) && (kO a0 8 && true)) <|
  bnd (sI S (a0 + 15) (mIx (0 : Int32)) v1) fun S1 =>
  grd (kI (a0 + 15) (1 : Int32) && (kO a0 8 && true)) <|
  bnd (sI S1 (a0 + 15) (mIx (1 : Int32)) v2) fun S2 =>
  grd (kI (a0 + 15) (2 : Int32) && (kO a0 8 && true)) <|
  bnd (sI S2 (a0 + 15) (mIx (2 : Int32)) v3) fun S3 =>
  grd (kI (a0 + 15) (3 : Int32) && (kO a0 8 && true)) <|
  bnd (sI S3 (a0 + 15) (mIx (3 : Int32)) v4) fun S4 =>
  grd (kI (a0 + 15) (4 : Int32) && (kO a0 8 && true)) <|
  bnd (sI S4 (a0 + 15) (mIx (4 : Int32)) v5) fun S5 =>
  grd (kI (a0 + 15) (5 : Int32) && (kO a0 8 && true)) <|
  bnd (sI S5 (a0 + 15) (mIx (5 : Int32)) v6) fun S6 =>
  some S6
def fX8_growHouse (a0 : Nat) (a1 : Nat) (v2 : Int32) (S : mT) : Option (mT) :=
  grd (kI a1 ((0 : Int32) + v2) && true) <|
  bnd (S.1 a1 (mIx ((0 : Int32) + v2))) fun x1 =>
  grd (kO a0 8 && (kI a1 ((5 : Int32) + v2) && true)) <|
  grd (kI a1 ((10 : Int32) + v2) && (kI (a0 + 5) v2 && (kO a0 8 && (kI (a0 + 4) v2 && true)))) <|
  grd (kI a1 (15 : Int32) && true) <|
  bndV (fX8_setValues a0 x1 (S.1 a1 (mIx ((5 : Int32) + v2))) (S.1 (a0 + 4) (mIx v2)) (S.1 (a0 + 5) (mIx v2)) (S.1 a1 (mIx ((10 : Int32) + v2))) (S.1 a1 (mIx (15 : Int32))) S) fun S2 =>
  grd (kO a0 8 && (kO a0 8 && true)) <|
  bndC (fX0_work (a0 + 12) (a0 + 15) S2) fun x4 S3 =>
  bndC (fX11_limited x4 (-3 : Int32) (3 : Int32) S3) fun x6 S5 =>
  bndC (fX11_limited (x1 + x6) (0 : Int32) (7 : Int32) S5) fun x8 S7 =>
  grd (kI a1 ((0 : Int32) + v2) && true) <|
  bnd (sI S7 a1 (mIx ((0 : Int32) + v2)) x8) fun S9 =>
  grd (kI a1 ((5 : Int32) + v2) && true) <|
  grd (kI a1 ((0 : Int32) + v2) && true) <|
  bnd (if (S9.1 a1 (mIx ((0 : Int32) + v2))) < (S9.1 a1 (mIx ((5 : Int32) + v2))) then (S9.1 a1 (mIx ((0 : Int32) + v2))) else (S9.1 a1 (mIx ((5 : Int32) + v2)))) fun x10 =>
  grd (kI a1 ((5 : Int32) + v2) && true) <|
  bnd (sI S9 a1 (mIx ((5 : Int32) + v2)) x10) fun S11 =>
  some S11
def fX8_sendMagpie_41 (a0 : Nat) (a1 : Nat) (S : mT) : Option (mT) :=
  some S
def fX8_sendMagpie (a0 : Nat) (a1 : Nat) (S : mT) : Option (mT) :=
  grd (kO a0 8 && true) <|
  if (S.1 a0 9) ≤ 0 then
    fX8_sendMagpie_41 a0 a1 S
  else
    grd (decide (¬ (S.1 a0 9) = 0) && (kO a0 8 && (kI a1 (16 : Int32) && true))) <|
    bnd ((10 : Int32) + ((S.1 a1 (mIx (16 : Int32))) - (S.1 a1 (mIx (16 : Int32))) / (S.1 a0 9) * (S.1 a0 9))) fun x1 =>
    grd (kI a1 (16 : Int32) && (kI a1 x1 && (kI a1 x1 && true))) <|
    grd (decide (¬ (3 : Int32) = 0) && (decide (¬ (100 : Int32) = 0) && true)) <|
    bnd (if (((S.1 a1 (mIx (16 : Int32))) / (100 : Int32)) - ((S.1 a1 (mIx (16 : Int32))) / (100 : Int32)) / (3 : Int32) * (3 : Int32)) < (S.1 a1 (mIx x1)) then (((S.1 a1 (mIx (16 : Int32))) / (100 : Int32)) - ((S.1 a1 (mIx (16 : Int32))) / (100 : Int32)) / (3 : Int32) * (3 : Int32)) else (S.1 a1 (mIx x1))) fun x2 =>
    grd (kI a1 x1 && true) <|
    bnd (sI S a1 (mIx x1) ((S.1 a1 (mIx x1)) - x2)) fun S3 =>
    fX8_sendMagpie_41 a0 a1 S3
def fX8_stonesHiding (a0 : Nat) (a1 : Nat) (v2 : Int32) (v3 : Int32) (S : mT) : Option (Int32 × mT) :=
  grd (kI a1 ((0 : Int32) + v2) && true) <|
  bnd (S.1 a1 (mIx ((0 : Int32) + v2))) fun x1 =>
  grd (kO (a0 + 6) 0 && (kO a0 8 && true)) <|
  if (S.1 (a0 + 6) 4) = 0 then
    grd (kI (a0 + 5) v2 && (kO a0 8 && true)) <|
    bndC (fX11_limited ((x1 - v3) + (S.1 (a0 + 5) (mIx v2))) (0 : Int32) (99 : Int32) S) fun x3 S2 =>
    some (x3, S2)
  else
    grd (kO a0 8 && (kI (a0 + 4) v2 && (kO a0 8 && true))) <|
    grd (kI a1 (15 : Int32) && (kI (a0 + 5) v2 && true)) <|
    bndV (fX8_setValues a0 x1 v3 (S.1 (a0 + 4) (mIx v2)) (S.1 (a0 + 5) (mIx v2)) (0 : Int32) (S.1 a1 (mIx (15 : Int32))) S) fun S4 =>
    grd (kO a0 8 && (kO a0 8 && true)) <|
    bndC (fX0_work (a0 + 6) (a0 + 15) S4) fun x6 S5 =>
    bndC (fX11_limited x6 (0 : Int32) (99 : Int32) S5) fun x8 S7 =>
    some (x8, S7)
def fX8_stonesOf (a0 : Nat) (a1 : Nat) (v2 : Int32) (S : mT) : Option (Int32 × mT) :=
  grd (kI a1 ((5 : Int32) + v2) && true) <|
  bndC (fX8_stonesHiding a0 a1 v2 (S.1 a1 (mIx ((5 : Int32) + v2))) S) fun x2 S1 =>
  some (x2, S1)
def fX8_passSummer_84 (a0 : Nat) (a1 : Nat) (S : mT) : Option (mT) :=
  grd (kI a1 (15 : Int32) && (kI a1 (15 : Int32) && true)) <|
  bnd (sI S a1 (mIx (15 : Int32)) ((S.1 a1 (mIx (15 : Int32))) + (1 : Int32))) fun S7 =>
  some S7
def fX8_passSummer_64 (a0 : Nat) (a1 : Nat) : Nat → Int32 → mT → Option (mT)
  | 0, _, _ => none
  | k + 1, v2, S =>
    grd (kO a0 8 && true) <|
    if (S.1 a0 9) ≤ v2 then
      fX8_passSummer_84 a0 a1 S
    else
      bndV (fX8_growHouse a0 a1 v2 S) fun S8 =>
      bnd (v2 + (1 : Int32)) fun x9 =>
      fX8_passSummer_64 a0 a1 k x9 S8
def fX8_passSummer_2 (a0 : Nat) (a1 : Nat) : Nat → Int32 → mT → Option (mT)
  | 0, _, _ => none
  | k + 1, v2, S =>
    grd (kO a0 8 && true) <|
    if (S.1 a0 9) ≤ v2 then
      grd (kI a1 (16 : Int32) && true) <|
      grd (kI a1 (16 : Int32) && (decide (¬ (1000 : Int32) = 0) && true)) <|
      bnd (sI S a1 (mIx (16 : Int32)) ((((S.1 a1 (mIx (16 : Int32))) * (137 : Int32)) + (71 : Int32)) - (((S.1 a1 (mIx (16 : Int32))) * (137 : Int32)) + (71 : Int32)) / (1000 : Int32) * (1000 : Int32))) fun S1 =>
      bndV (fX8_sendMagpie a0 a1 S1) fun S2 =>
      grd (kO (a0 + 12) 0 && (kO a0 8 && true)) <|
      if (S2.1 (a0 + 12) 4) = 0 then
        fX8_passSummer_84 a0 a1 S2
      else
        fX8_passSummer_64 a0 a1 mK (0 : Int32) S2
    else
      bndC (fX8_stonesOf a0 a1 v2 S) fun x4 S3 =>
      grd (kI a1 ((10 : Int32) + v2) && true) <|
      bnd (sI S3 a1 (mIx ((10 : Int32) + v2)) x4) fun S5 =>
      bnd (v2 + (1 : Int32)) fun x6 =>
      fX8_passSummer_2 a0 a1 k x6 S5
def fX8_passSummer (a0 : Nat) (a1 : Nat) (S : mT) : Option (mT) :=
  fX8_passSummer_2 a0 a1 mK (0 : Int32) S
def fX11_foresee_17 (b : Bool) : Nat → Int32 → Int32 → mT → Option (mT)
  | 0, _, _, _ => none
  | k + 1, v1, v2, S =>
    if v1 ≤ v2 then
      some S
    else
      grd (kO 0 11 && (kO 0 11 && true)) <|
      bndV (fX8_passSummer (shU b) 36 S) fun S2 =>
      bnd (v2 + (1 : Int32)) fun x3 =>
      fX11_foresee_17 b k v1 x3 S2
def fX11_foresee (b : Bool) (v1 : Int32) (S : mT) : Option (mT) :=
  grd (kC 35 36 (0 : Int32) (0 : Int32) (17 : Int32) && (kO 0 11 && (kO 0 11 && true))) <|
  bnd (sC S 35 36 (0 : Int32) (0 : Int32) (17 : Int32)) fun S1 =>
  fX11_foresee_17 b mK v1 (0 : Int32) S1
def fX11_bowls (b : Bool) (v1 : Int32) (S : mT) : Option (Int32 × mT) :=
  bndC (fX11_isWithin v1 (0 : Int32) (60 : Int32) S) fun x2 S1 =>
  if x2 = 0 then
    some ((-1 : Int32), S1)
  else
    bndV (fX11_foresee b v1 S1) fun S3 =>
    grd (kO 0 11 && true) <|
    bndC (fX11_allBowls b 36 S3) fun x5 S4 =>
    some (x5, S4)
def fX11_lay (a1 : Nat) (v2 : Int32) (S : mT) : Option (mT) :=
  grd (kAL 233 (sT a1) a1 && true) <|
  bnd (if (8 : Int32) < (Int32.ofNat (kLen (sT a1))) then (8 : Int32) else (Int32.ofNat (kLen (sT a1)))) fun x1 =>
  bnd (if x1 < v2 then x1 else v2) fun x2 =>
  grd (kO 0 11 && true) <|
  bnd (sI S 0 13 x2) fun S3 =>
  grd (kC a1 186 (0 : Int32) (0 : Int32) (S3.1 0 13) && (kO 0 11 && (kO 0 11 && true))) <|
  bnd (sC S3 a1 186 (0 : Int32) (0 : Int32) (S3.1 0 13)) fun S4 =>
  some S4
def fX6_look (a1 : Nat) (a2 : Nat) (S : mT) : Option (mT) :=
  grd (kO 100 6 && (kO a1 8 && true)) <|
  bnd (sI S 100 8 (S.1 a1 9)) fun S1 =>
  grd (kC (a1 + 2) 101 (0 : Int32) (0 : Int32) (S1.1 100 8) && (kO 100 6 && (kO 100 6 && (kO a1 8 && true)))) <|
  bnd (sC S1 (a1 + 2) 101 (0 : Int32) (0 : Int32) (S1.1 100 8)) fun S2 =>
  grd (kC a2 102 (10 : Int32) (0 : Int32) (S2.1 100 8) && (kO 100 6 && (kO 100 6 && true))) <|
  bnd (sC S2 a2 102 (10 : Int32) (0 : Int32) (S2.1 100 8)) fun S3 =>
  grd (kO 100 6 && true) <|
  bndV (fJ7_fill_53178 104 (0 : Int32) S3) fun S4 =>
  grd (kO 100 6 && true) <|
  bndV (fJ7_fill_53178 105 (0 : Int32) S4) fun S5 =>
  some S5
def fX6_afterKnock_40 (rc5 : Int32 → Int32 → Int32 → Int32 → mT → Option (Int32 × mT)) (v1 : Int32) (v2 : Int32) (v3 : Int32) (v4 : Int32) (S : mT) : Option (Int32 × mT) :=
  bnd (v4 + (1 : Int32)) fun x2 =>
  rc5 v1 v2 v3 x2 S
def fX6_afterKnock_5 : Nat → Int32 → Int32 → Int32 → Int32 → mT → Option (Int32 × mT)
  | 0, _, _, _, _, _ => none
  | k + 1, v1, v2, v3, v4, S =>
    grd (kO 100 6 && true) <|
    if (S.1 100 8) ≤ v4 then
      some (v3, S)
    else
      if v4 = v2 then
        fX6_afterKnock_40 (fX6_afterKnock_5 k) v1 v2 v3 v4 S
      else
        if ((v1 >>> (v4 &&& 31)) &&& (1 : Int32)) = (1 : Int32) then
          grd (kI 106 v4 && (kO 100 6 && true)) <|
          bnd (v3 ||| (S.1 106 (mIx v4))) fun x1 =>
          fX6_afterKnock_40 (fX6_afterKnock_5 k) v1 v2 x1 v4 S
        else
          fX6_afterKnock_40 (fX6_afterKnock_5 k) v1 v2 v3 v4 S
def fX6_afterKnock (v1 : Int32) (v2 : Int32) (S : mT) : Option (Int32 × mT) :=
  fX6_afterKnock_5 mK v1 v2 (0 : Int32) (0 : Int32) S
def fX6_fewestFrom_9 : Nat → Int32 → Int32 → Int32 → mT → Option (Int32 × mT)
  | 0, _, _, _, _ => none
  | k + 1, v1, v2, v3, S =>
    grd (kO 100 6 && true) <|
    if (S.1 100 8) ≤ v3 then
      some (v2, S)
    else
      grd (kO 100 6 && true) <|
      bndC (fX6_afterKnock v1 v3 S) fun x3 S2 =>
      grd (kI 107 x3 && true) <|
      bnd (if ((S2.1 107 (mIx x3)) + (1 : Int32)) < v2 then ((S2.1 107 (mIx x3)) + (1 : Int32)) else v2) fun x4 =>
      bnd (v3 + (1 : Int32)) fun x5 =>
      fX6_fewestFrom_9 k v1 x4 x5 S2
def fX6_fewestFrom (v1 : Int32) (S : mT) : Option (Int32 × mT) :=
  grd (kI 107 v1 && (kO 100 6 && true)) <|
  bnd (S.1 107 (mIx v1)) fun x1 =>
  fX6_fewestFrom_9 mK v1 x1 (0 : Int32) S
def fX6_countSteps_68 (rc20 : Int32 → Int32 → mT → Option (mT)) (rc34 : Int32 → Int32 → Int32 → mT → Option (mT)) (v2 : Int32) (v3 : Int32) (v4 : Int32) (s0 : Int32) (s1 : Int32) (S : mT) : Option (mT) :=
  bnd (s1 ||| s0) fun x6 =>
  grd (kI 107 v3 && (kO 100 6 && true)) <|
  bnd (sI S 107 (mIx v3) v4) fun S7 =>
  bnd (v3 + (1 : Int32)) fun x8 =>
  rc34 x6 v2 x8 S7
def fX6_countSteps_34 (rc20 : Int32 → Int32 → mT → Option (mT)) : Nat → Int32 → Int32 → Int32 → mT → Option (mT)
  | 0, _, _, _, _ => none
  | k + 1, v1, v2, v3, S =>
    grd (kO 100 6 && true) <|
    if ((1 : Int32) <<< ((S.1 100 8) &&& 31)) ≤ v3 then
      bnd (v2 + (1 : Int32)) fun x3 =>
      rc20 v1 x3 S
    else
      bndC (fX6_fewestFrom v3 S) fun x5 S4 =>
      grd (kI 107 v3 && (kO 100 6 && true)) <|
      if (S4.1 107 (mIx v3)) ≤ x5 then
        fX6_countSteps_68 rc20 (fX6_countSteps_34 rc20 k) v2 v3 x5 (0 : Int32) v1 S4
      else
        fX6_countSteps_68 rc20 (fX6_countSteps_34 rc20 k) v2 v3 x5 (1 : Int32) v1 S4
def fX6_countSteps_90 (S : mT) : Option (mT) :=
  some S
def fX6_countSteps_20 : Nat → Int32 → Int32 → mT → Option (mT)
  | 0, _, _, _ => none
  | k + 1, v1, v2, S =>
    if (32 : Int32) ≤ v2 then
      fX6_countSteps_90 S
    else
      if v1 = 0 then
        fX6_countSteps_90 S
      else
        fX6_countSteps_34 (fX6_countSteps_20 k) mK (0 : Int32) v2 (1 : Int32) S
def fX6_countSteps (S : mT) : Option (mT) :=
  grd (kO 100 6 && true) <|
  bndV (fJ7_fill_53178 107 (1000000 : Int32) S) fun S1 =>
  grd (kI 107 (0 : Int32) && (kO 100 6 && true)) <|
  bnd (sI S1 107 (mIx (0 : Int32)) (0 : Int32)) fun S2 =>
  fX6_countSteps_20 mK (1 : Int32) (0 : Int32) S2
def fX6_bitOf_12 (s0 : Int32) (S : mT) : Option (Int32 × mT) :=
  some (s0, S)
def fX6_bitOf (v0 : Int32) (S : mT) : Option (Int32 × mT) :=
  if v0 = (-1 : Int32) then
    fX6_bitOf_12 (0 : Int32) S
  else
    fX6_bitOf_12 ((1 : Int32) <<< (v0 &&& 31)) S
def fX6_isBefore_32 (s0 : Int32) (S : mT) : Option (Int32 × mT) :=
  grd (mFit .boolean s0) (some (s0, S))
def fX6_isBefore_27 (S : mT) : Option (Int32 × mT) :=
  fX6_isBefore_32 (1 : Int32) S
def fX6_isBefore_31 (S : mT) : Option (Int32 × mT) :=
  fX6_isBefore_32 (0 : Int32) S
def fX6_isBefore (v1 : Int32) (v2 : Int32) (S : mT) : Option (Int32 × mT) :=
  grd (kI 101 v2 && (kO 100 6 && (kI 101 v1 && (kO 100 6 && true)))) <|
  bnd ((S.1 101 (mIx v1)) - (S.1 101 (mIx v2))) fun x1 =>
  if x1 < 0 then
    fX6_isBefore_27 S
  else
    if x1 = 0 then
      if v2 ≤ v1 then
        fX6_isBefore_31 S
      else
        fX6_isBefore_27 S
    else
      fX6_isBefore_31 S
def fX6_findNeighbours_82 (rc2 : Int32 → mT → Option (mT)) (rc17 : Int32 → Int32 → Int32 → Int32 → mT → Option (mT)) (v1 : Int32) (v2 : Int32) (v3 : Int32) (v4 : Int32) (S : mT) : Option (mT) :=
  bnd (v4 + (1 : Int32)) fun x18 =>
  rc17 v1 v2 v3 x18 S
def fX6_findNeighbours_79 (rc2 : Int32 → mT → Option (mT)) (rc17 : Int32 → Int32 → Int32 → Int32 → mT → Option (mT)) (v1 : Int32) (v2 : Int32) (v4 : Int32) (S : mT) : Option (mT) :=
  fX6_findNeighbours_82 rc2 rc17 v1 v2 v4 v4 S
def fX6_findNeighbours_54 (rc2 : Int32 → mT → Option (mT)) (rc17 : Int32 → Int32 → Int32 → Int32 → mT → Option (mT)) (v1 : Int32) (v2 : Int32) (v3 : Int32) (v4 : Int32) (S : mT) : Option (mT) :=
  bndC (fX6_isBefore v1 v4 S) fun x15 S14 =>
  if x15 = 0 then
    fX6_findNeighbours_82 rc2 rc17 v1 v2 v3 v4 S14
  else
    if v3 = (-1 : Int32) then
      fX6_findNeighbours_79 rc2 rc17 v1 v2 v4 S14
    else
      bndC (fX6_isBefore v4 v3 S14) fun x17 S16 =>
      if x17 = 0 then
        fX6_findNeighbours_82 rc2 rc17 v1 v2 v3 v4 S16
      else
        fX6_findNeighbours_79 rc2 rc17 v1 v2 v4 S16
def fX6_findNeighbours_51 (rc2 : Int32 → mT → Option (mT)) (rc17 : Int32 → Int32 → Int32 → Int32 → mT → Option (mT)) (v1 : Int32) (v3 : Int32) (v4 : Int32) (S : mT) : Option (mT) :=
  fX6_findNeighbours_54 rc2 rc17 v1 v4 v3 v4 S
def fX6_findNeighbours_121 (rc2 : Int32 → mT → Option (mT)) (v1 : Int32) (S : mT) : Option (mT) :=
  bnd (v1 + (1 : Int32)) fun x13 =>
  rc2 x13 S
def fX6_findNeighbours_17 (rc2 : Int32 → mT → Option (mT)) : Nat → Int32 → Int32 → Int32 → Int32 → mT → Option (mT)
  | 0, _, _, _, _, _ => none
  | k + 1, v1, v2, v3, v4, S =>
    grd (kO 100 6 && true) <|
    if (S.1 100 8) ≤ v4 then
      grd (kO 100 6 && true) <|
      bndC (fX6_bitOf v2 S) fun x2 S1 =>
      bndC (fX6_bitOf v3 S1) fun x4 S3 =>
      grd (kI 106 v1 && true) <|
      bnd (sI S3 106 (mIx v1) (x2 ||| x4)) fun S5 =>
      grd (kO 100 6 && true) <|
      if (S5.1 100 8) = (1 : Int32) then
        grd (kO 100 6 && true) <|
        bndC (fX6_bitOf v1 S5) fun x7 S6 =>
        grd (kI 106 v1 && true) <|
        bnd (sI S6 106 (mIx v1) x7) fun S8 =>
        fX6_findNeighbours_121 rc2 v1 S8
      else
        fX6_findNeighbours_121 rc2 v1 S5
    else
      bndC (fX6_isBefore v4 v1 S) fun x10 S9 =>
      if x10 = 0 then
        fX6_findNeighbours_54 rc2 (fX6_findNeighbours_17 rc2 k) v1 v2 v3 v4 S9
      else
        if v2 = (-1 : Int32) then
          fX6_findNeighbours_51 rc2 (fX6_findNeighbours_17 rc2 k) v1 v3 v4 S9
        else
          bndC (fX6_isBefore v2 v4 S9) fun x12 S11 =>
          if x12 = 0 then
            fX6_findNeighbours_54 rc2 (fX6_findNeighbours_17 rc2 k) v1 v2 v3 v4 S11
          else
            fX6_findNeighbours_51 rc2 (fX6_findNeighbours_17 rc2 k) v1 v3 v4 S11
def fX6_findNeighbours_2 : Nat → Int32 → mT → Option (mT)
  | 0, _, _ => none
  | k + 1, v1, S =>
    grd (kO 100 6 && true) <|
    if (S.1 100 8) ≤ v1 then
      some S
    else
      fX6_findNeighbours_17 (fX6_findNeighbours_2 k) mK v1 (-1 : Int32) (-1 : Int32) (0 : Int32) S
def fX6_findNeighbours (S : mT) : Option (mT) :=
  fX6_findNeighbours_2 mK (0 : Int32) S
def fX6_firstOnTheWay_2 : Nat → Int32 → Int32 → mT → Option (Int32 × mT)
  | 0, _, _, _ => none
  | k + 1, v1, v2, S =>
    grd (kO 100 6 && true) <|
    if (S.1 100 8) ≤ v2 then
      some ((0 : Int32), S)
    else
      grd (kO 100 6 && true) <|
      bndC (fX6_afterKnock v1 v2 S) fun x2 S1 =>
      grd (kI 107 v1 && (kO 100 6 && (kI 107 x2 && true))) <|
      if (S1.1 107 (mIx v1)) ≤ (S1.1 107 (mIx x2)) then
        bnd (v2 + (1 : Int32)) fun x3 =>
        fX6_firstOnTheWay_2 k v1 x3 S1
      else
        some (v2, S1)
def fX6_firstOnTheWay (v1 : Int32) (S : mT) : Option (Int32 × mT) :=
  fX6_firstOnTheWay_2 mK v1 (0 : Int32) S
def fX6_planKnocks_55 (v2 : Int32) (S : mT) : Option (Int32 × mT) :=
  some (v2, S)
def fX6_planKnocks_19 : Nat → Int32 → Int32 → mT → Option (Int32 × mT)
  | 0, _, _, _ => none
  | k + 1, v1, v2, S =>
    if v1 = 0 then
      fX6_planKnocks_55 v2 S
    else
      if (8 : Int32) ≤ v2 then
        fX6_planKnocks_55 v2 S
      else
        bndC (fX6_firstOnTheWay v1 S) fun x5 S4 =>
        grd (kI 108 v2 && (kO 100 6 && true)) <|
        bnd (sI S4 108 (mIx v2) x5) fun S6 =>
        bnd (v2 + (1 : Int32)) fun x7 =>
        bndC (fX6_afterKnock v1 x5 S6) fun x9 S8 =>
        fX6_planKnocks_19 k x9 x7 S8
def fX6_planKnocks (S : mT) : Option (Int32 × mT) :=
  bndV (fX6_findNeighbours S) fun S1 =>
  bndV (fX6_countSteps S1) fun S2 =>
  grd (kO 100 6 && true) <|
  bnd (((1 : Int32) <<< ((S2.1 100 8) &&& 31)) - (1 : Int32)) fun x3 =>
  fX6_planKnocks_19 mK x3 (0 : Int32) S2
def fX11_chase (b : Bool) (S : mT) : Option (Int32 × mT) :=
  grd (kO 0 11 && true) <|
  bnd (sI S 0 13 (0 : Int32)) fun S1 =>
  grd (kO (shU b) 8 && (kO 0 11 && true)) <|
  if (S1.1 (shU b) 9) = 0 then
    some ((-1 : Int32), S1)
  else
    grd (kO 0 11 && (kO 0 11 && (kO 0 11 && true))) <|
    bndV (fX6_look (shU b) 35 S1) fun S2 =>
    grd (kO 0 11 && true) <|
    bndC (fX6_planKnocks S2) fun x4 S3 =>
    grd (kO 100 6 && (kO 0 11 && true)) <|
    bndV (fX11_lay 108 x4 S3) fun S5 =>
    some (x4, S5)
def fX11_isHouse_20 (b : Bool) (s0 : Int32) (S : mT) : Option (Int32 × mT) :=
  grd (mFit .boolean s0) (some (s0, S))
def fX11_isHouse_19 (b : Bool) (S : mT) : Option (Int32 × mT) :=
  fX11_isHouse_20 b (0 : Int32) S
def fX11_isHouse (b : Bool) (v1 : Int32) (S : mT) : Option (Int32 × mT) :=
  if v1 < 0 then
    fX11_isHouse_19 b S
  else
    grd (kO (shU b) 8 && (kO 0 11 && true)) <|
    if (S.1 (shU b) 9) ≤ v1 then
      fX11_isHouse_19 b S
    else
      fX11_isHouse_20 b (1 : Int32) S
def fX2_keep_35 (a1 : Nat) (S : mT) : Option (mT) :=
  grd (kO 37 2 && true) <|
  bnd (sI S 37 5 (0 : Int32)) fun S3 =>
  bndV (fX2_copyFrom a1 S3) fun S4 =>
  some S4
def fX2_keep (a1 : Nat) (S : mT) : Option (mT) :=
  grd (kO 37 2 && true) <|
  if (40 : Int32) ≤ (S.1 37 4) then
    grd (kO 37 2 && (decide (¬ (41 : Int32) = 0) && (kO 37 2 && true))) <|
    bnd (sI S 37 3 (((S.1 37 3) + (1 : Int32)) - ((S.1 37 3) + (1 : Int32)) / (41 : Int32) * (41 : Int32))) fun S1 =>
    fX2_keep_35 a1 S1
  else
    grd (kO 37 2 && (kO 37 2 && true)) <|
    bnd (sI S 37 4 ((S.1 37 4) + (1 : Int32))) fun S2 =>
    fX2_keep_35 a1 S2
def fX11_comes_21 (b : Bool) (S : mT) : Option (Int32 × mT) :=
  some ((-1 : Int32), S)
def fX11_comes (b : Bool) (v1 : Int32) (S : mT) : Option (Int32 × mT) :=
  bndC (fX11_isHouse b v1 S) fun x2 S1 =>
  if x2 = 0 then
    fX11_comes_21 b S1
  else
    grd (kI 35 ((0 : Int32) + v1) && (kO 0 11 && true)) <|
    if (S1.1 35 (mIx ((0 : Int32) + v1))) < (7 : Int32) then
      grd (kI 35 ((0 : Int32) + v1) && (kI 35 ((0 : Int32) + v1) && (kO 0 11 && true))) <|
      bnd (sI S1 35 (mIx ((0 : Int32) + v1)) ((S1.1 35 (mIx ((0 : Int32) + v1))) + (1 : Int32))) fun S3 =>
      grd (kO 0 11 && (kO 0 11 && true)) <|
      bndV (fX2_keep 35 S3) fun S4 =>
      grd (kI 35 ((0 : Int32) + v1) && (kO 0 11 && true)) <|
      some ((S4.1 35 (mIx ((0 : Int32) + v1))), S4)
    else
      fX11_comes_21 b S1
def fX11_commonDivisor_34 (v2 : Int32) (S : mT) : Option (Int32 × mT) :=
  some (v2, S)
def fX11_commonDivisor_7 : Nat → Int32 → Int32 → Int32 → mT → Option (Int32 × mT)
  | 0, _, _, _, _ => none
  | k + 1, v2, v3, v4, S =>
    if (64 : Int32) ≤ v4 then
      fX11_commonDivisor_34 v2 S
    else
      if v3 = 0 then
        fX11_commonDivisor_34 v2 S
      else
        grd (decide (¬ v3 = 0) && true) <|
        bnd (v2 - v2 / v3 * v3) fun x1 =>
        bnd (v4 + (1 : Int32)) fun x2 =>
        fX11_commonDivisor_7 k v3 x1 x2 S
def fX11_commonDivisor (v0 : Int32) (v1 : Int32) (S : mT) : Option (Int32 × mT) :=
  fX11_commonDivisor_7 mK v0 v1 (0 : Int32) S
def fX11_doubled_49 (b : Bool) (rc14 : Int32 → Int32 → Int32 → Int32 → mT → Option (Int32 × mT)) (v1 : Int32) (v2 : Int32) (v3 : Int32) (v4 : Int32) (S : mT) : Option (Int32 × mT) :=
  bnd (v4 + (1 : Int32)) fun x4 =>
  rc14 v1 v2 v3 x4 S
def fX11_doubled_14 (b : Bool) : Nat → Int32 → Int32 → Int32 → Int32 → mT → Option (Int32 × mT)
  | 0, _, _, _, _, _ => none
  | k + 1, v1, v2, v3, v4, S =>
    grd (kO (shU b) 8 && (kO 0 11 && true)) <|
    if (S.1 (shU b) 9) ≤ v4 then
      some (v3, S)
    else
      grd (kI 35 ((10 : Int32) + v4) && (kO 0 11 && true)) <|
      if (v2 + (S.1 35 (mIx ((10 : Int32) + v4)))) = v1 then
        bnd (v3 ||| ((1 : Int32) <<< (v4 &&& 31))) fun x3 =>
        fX11_doubled_49 b (fX11_doubled_14 b k) v1 v2 x3 v4 S
      else
        fX11_doubled_49 b (fX11_doubled_14 b k) v1 v2 v3 v4 S
def fX11_doubled (b : Bool) (v1 : Int32) (S : mT) : Option (Int32 × mT) :=
  grd (kO 0 11 && true) <|
  bndC (fX11_allBowls b 35 S) fun x2 S1 =>
  fX11_doubled_14 b mK v1 x2 (0 : Int32) (0 : Int32) S1
def fX11_fullest_30 (b : Bool) (a1 : Nat) (rc4 : Int32 → Int32 → mT → Option (Int32 × mT)) (v2 : Int32) (v3 : Int32) (S : mT) : Option (Int32 × mT) :=
  bnd (v3 + (1 : Int32)) fun x1 =>
  rc4 v2 x1 S
def fX11_fullest_4 (b : Bool) (a1 : Nat) : Nat → Int32 → Int32 → mT → Option (Int32 × mT)
  | 0, _, _, _ => none
  | k + 1, v2, v3, S =>
    grd (kO (shU b) 8 && (kO 0 11 && true)) <|
    if (S.1 (shU b) 9) ≤ v3 then
      some (v2, S)
    else
      grd (kI a1 ((0 : Int32) + v2) && (kI a1 ((0 : Int32) + v3) && true)) <|
      if (S.1 a1 (mIx ((0 : Int32) + v3))) ≤ (S.1 a1 (mIx ((0 : Int32) + v2))) then
        fX11_fullest_30 b a1 (fX11_fullest_4 b a1 k) v2 v3 S
      else
        fX11_fullest_30 b a1 (fX11_fullest_4 b a1 k) v3 v3 S
def fX11_fullest (b : Bool) (a1 : Nat) (S : mT) : Option (Int32 × mT) :=
  fX11_fullest_4 b a1 mK (0 : Int32) (1 : Int32) S
def fX8_taxOf (a0 : Nat) (v1 : Int32) (v2 : Int32) (v3 : Int32) (S : mT) : Option (Int32 × mT) :=
  grd (kO (a0 + 9) 0 && (kO a0 8 && true)) <|
  if (S.1 (a0 + 9) 4) = 0 then
    bndC (fX11_limited v1 (0 : Int32) (999 : Int32) S) fun x2 S1 =>
    some (x2, S1)
  else
    grd (kI (a0 + 4) v2 && (kO a0 8 && true)) <|
    bndV (fX8_setValues a0 (0 : Int32) (0 : Int32) (S.1 (a0 + 4) (mIx v2)) (0 : Int32) v1 v3 S) fun S3 =>
    grd (kO a0 8 && (kO a0 8 && true)) <|
    bndC (fX0_work (a0 + 9) (a0 + 15) S3) fun x5 S4 =>
    bndC (fX11_limited x5 (0 : Int32) (999 : Int32) S4) fun x7 S6 =>
    some (x7, S6)
def fX11_house_164 (b : Bool) (s0 : Int32) (S : mT) : Option (Int32 × mT) :=
  some (s0, S)
def fX11_house (b : Bool) (v1 : Int32) (v2 : Int32) (S : mT) : Option (Int32 × mT) :=
  bndC (fX11_isHouse b v1 S) fun x2 S1 =>
  if x2 = 0 then
    some ((-1 : Int32), S1)
  else
    if v2 = (0 : Int32) then
      grd (kI ((shU b) + 2) v1 && (kO (shU b) 8 && (kO 0 11 && true))) <|
      some ((S1.1 ((shU b) + 2) (mIx v1)), S1)
    else
      if v2 = (1 : Int32) then
        grd (kI 35 ((0 : Int32) + v1) && (kO 0 11 && true)) <|
        some ((S1.1 35 (mIx ((0 : Int32) + v1))), S1)
      else
        if v2 = (2 : Int32) then
          grd (kI 35 ((5 : Int32) + v1) && (kO 0 11 && true)) <|
          some ((S1.1 35 (mIx ((5 : Int32) + v1))), S1)
        else
          if v2 = (3 : Int32) then
            grd (kI 35 ((10 : Int32) + v1) && (kO 0 11 && true)) <|
            some ((S1.1 35 (mIx ((10 : Int32) + v1))), S1)
          else
            if v2 = (4 : Int32) then
              grd (kI ((shU b) + 4) v1 && (kO (shU b) 8 && (kO 0 11 && true))) <|
              some ((S1.1 ((shU b) + 4) (mIx v1)), S1)
            else
              if v2 = (5 : Int32) then
                grd (kI ((shU b) + 5) v1 && (kO (shU b) 8 && (kO 0 11 && true))) <|
                some ((S1.1 ((shU b) + 5) (mIx v1)), S1)
              else
                if v2 = (6 : Int32) then
                  grd (kO 0 11 && (kO 0 11 && true)) <|
                  bndC (fX8_stonesOf (shU b) 35 v1 S1) fun x12 S11 =>
                  some (x12, S11)
                else
                  if v2 = (7 : Int32) then
                    grd (kO 0 11 && (kO 0 11 && true)) <|
                    bndC (fX8_stonesOf (shU b) 35 v1 S1) fun x10 S9 =>
                    grd (kI ((shU b) + 4) v1 && (kO (shU b) 8 && (kO 0 11 && true))) <|
                    if (S9.1 ((shU b) + 4) (mIx v1)) ≤ x10 then
                      fX11_house_164 b (0 : Int32) S9
                    else
                      fX11_house_164 b (1 : Int32) S9
                  else
                    if v2 = (8 : Int32) then
                      grd (kI 35 ((10 : Int32) + v1) && (kO 0 11 && (kO 0 11 && true))) <|
                      grd (kI 35 (15 : Int32) && (kO 0 11 && true)) <|
                      bndC (fX8_taxOf (shU b) (S1.1 35 (mIx ((10 : Int32) + v1))) v1 (S1.1 35 (mIx (15 : Int32))) S1) fun x8 S7 =>
                      some (x8, S7)
                    else
                      if v2 = (9 : Int32) then
                        grd (kO 0 11 && (kO 0 11 && (kO 0 11 && true))) <|
                        bndC (fX8_stonesOf (shU b) 35 v1 S1) fun x4 S3 =>
                        grd (kI 35 (15 : Int32) && (kO 0 11 && true)) <|
                        bndC (fX8_taxOf (shU b) x4 v1 (S3.1 35 (mIx (15 : Int32))) S3) fun x6 S5 =>
                        some (x6, S5)
                      else
                        some ((-1 : Int32), S1)
def fX11_sumOf_4 (b : Bool) : Nat → Int32 → Int32 → Int32 → mT → Option (Int32 × mT)
  | 0, _, _, _, _ => none
  | k + 1, v1, v2, v3, S =>
    grd (kO (shU b) 8 && (kO 0 11 && true)) <|
    if (S.1 (shU b) 9) ≤ v3 then
      some (v2, S)
    else
      bndC (fX11_house b v3 v1 S) fun x2 S1 =>
      bnd (v2 + x2) fun x3 =>
      bnd (v3 + (1 : Int32)) fun x4 =>
      fX11_sumOf_4 b k v1 x3 x4 S1
def fX11_sumOf (b : Bool) (v1 : Int32) (S : mT) : Option (Int32 × mT) :=
  fX11_sumOf_4 b mK v1 (0 : Int32) (0 : Int32) S
def fX11_sum (b : Bool) (v1 : Int32) (S : mT) : Option (Int32 × mT) :=
  if v1 = (0 : Int32) then
    bndC (fX11_sumOf b (1 : Int32) S) fun x12 S11 =>
    some (x12, S11)
  else
    if v1 = (1 : Int32) then
      bndC (fX11_sumOf b (2 : Int32) S) fun x10 S9 =>
      some (x10, S9)
    else
      if v1 = (2 : Int32) then
        bndC (fX11_sumOf b (3 : Int32) S) fun x8 S7 =>
        some (x8, S7)
      else
        if v1 = (3 : Int32) then
          bndC (fX11_sumOf b (6 : Int32) S) fun x6 S5 =>
          some (x6, S5)
        else
          if v1 = (4 : Int32) then
            bndC (fX11_sumOf b (8 : Int32) S) fun x4 S3 =>
            some (x4, S3)
          else
            if v1 = (5 : Int32) then
              bndC (fX11_sumOf b (9 : Int32) S) fun x2 S1 =>
              some (x2, S1)
            else
              some ((-1 : Int32), S)
def fX11_draft_27 (b : Bool) (S : mT) : Option (Int32 × mT) :=
  some ((-1 : Int32), S)
def fX11_draft_46 (b : Bool) : Nat → Int32 → Int32 → Int32 → mT → Option (Int32 × mT)
  | 0, _, _, _, _ => none
  | k + 1, v1, v2, v3, S =>
    if v2 ≤ v3 then
      grd (kO 0 11 && (kI 35 ((0 : Int32) + v1) && (kO 0 11 && true))) <|
      grd (kI 36 ((0 : Int32) + v1) && true) <|
      some (((S.1 35 (mIx ((0 : Int32) + v1))) - (S.1 36 (mIx ((0 : Int32) + v1)))), S)
    else
      grd (kO 0 11 && (kO 0 11 && true)) <|
      bndC (fX11_fullest b 36 S) fun x9 S8 =>
      grd (kI 36 ((0 : Int32) + x9) && (kI 36 ((0 : Int32) + x9) && true)) <|
      bnd (sI S8 36 (mIx ((0 : Int32) + x9)) ((S8.1 36 (mIx ((0 : Int32) + x9))) - (1 : Int32))) fun S10 =>
      bnd (v3 + (1 : Int32)) fun x11 =>
      fX11_draft_46 b k v1 v2 x11 S10
def fX11_draft (b : Bool) (v1 : Int32) (v2 : Int32) (S : mT) : Option (Int32 × mT) :=
  bndC (fX11_isHouse b v1 S) fun x2 S1 =>
  if x2 = 0 then
    fX11_draft_27 b S1
  else
    bndC (fX11_isWithin v2 (0 : Int32) (35 : Int32) S1) fun x4 S3 =>
    if x4 = 0 then
      fX11_draft_27 b S3
    else
      bndC (fX11_sum b (0 : Int32) S3) fun x6 S5 =>
      if v2 ≤ x6 then
        grd (kC 35 36 (0 : Int32) (0 : Int32) (17 : Int32) && (kO 0 11 && (kO 0 11 && true))) <|
        bnd (sC S5 35 36 (0 : Int32) (0 : Int32) (17 : Int32)) fun S7 =>
        fX11_draft_46 b mK v1 v2 (0 : Int32) S7
      else
        fX11_draft_27 b S5
def fX11_end_15 (S : mT) : Option (Int32 × mT) :=
  some ((-1 : Int32), S)
def fX11_end (v1 : Int32) (S : mT) : Option (Int32 × mT) :=
  if v1 < 0 then
    fX11_end_15 S
  else
    grd (kO 1 4 && (kO 0 11 && true)) <|
    if v1 ≤ (S.1 1 1) then
      grd (kO 1 4 && (kO 0 11 && true)) <|
      bnd (sI S 1 1 v1) fun S1 =>
      some (v1, S1)
    else
      fX11_end_15 S
def fX11_falses_41 (b : Bool) (rc4 : Int32 → Int32 → mT → Option (Int32 × mT)) (v1 : Int32) (v2 : Int32) (S : mT) : Option (Int32 × mT) :=
  bnd (v2 + (1 : Int32)) fun x2 =>
  rc4 v1 x2 S
def fX11_falses_4 (b : Bool) : Nat → Int32 → Int32 → mT → Option (Int32 × mT)
  | 0, _, _, _ => none
  | k + 1, v1, v2, S =>
    grd (kO (shU b) 8 && (kO 0 11 && true)) <|
    if (S.1 (shU b) 9) ≤ v2 then
      some (v1, S)
    else
      grd (kO 0 11 && (kI 35 ((10 : Int32) + v2) && (kO 0 11 && true))) <|
      grd (kI 35 ((0 : Int32) + v2) && true) <|
      if (S.1 35 (mIx ((10 : Int32) + v2))) = (S.1 35 (mIx ((0 : Int32) + v2))) then
        fX11_falses_41 b (fX11_falses_4 b k) v1 v2 S
      else
        bnd (v1 ||| ((1 : Int32) <<< (v2 &&& 31))) fun x1 =>
        fX11_falses_41 b (fX11_falses_4 b k) x1 v2 S
def fX11_falses (b : Bool) (S : mT) : Option (Int32 × mT) :=
  fX11_falses_4 b mK (0 : Int32) (0 : Int32) S
def fX11_fault_57 (s0 : Int32) (S : mT) : Option (Int32 × mT) :=
  some (s0, S)
def fX11_fault (v1 : Int32) (S : mT) : Option (Int32 × mT) :=
  if (0 : Int) = v1.toInt then
    grd (kO 1 4 && (kO 0 11 && true)) <|
    some ((S.1 1 2), S)
  else
    if (1 : Int) = v1.toInt then
      grd (kO 1 4 && (kO 0 11 && true)) <|
      if (S.1 1 2) = 0 then
        fX11_fault_57 (-1 : Int32) S
      else
        grd (kO 1 4 && (kO 0 11 && true)) <|
        fX11_fault_57 (S.1 1 3) S
    else
      some ((-1 : Int32), S)
def fX4_append_46 (S : mT) : Option (mT) :=
  some S
def fX4_append_3 : Nat → Int32 → Int32 → mT → Option (mT)
  | 0, _, _, _ => none
  | k + 1, v1, v2, S =>
    if v2 < 0 then
      fX4_append_46 S
    else
      grd (kO 1 4 && true) <|
      if (1600 : Int32) ≤ (S.1 1 1) then
        fX4_append_46 S
      else
        grd (kB 2 (S.1 1 1) && (kO 1 4 && (kO 1 4 && true))) <|
        bnd (sI S 2 (mIx (S.1 1 1)) (kN 2 ((v1 >>> (v2 &&& 31)).toInt8.toInt32))) fun S1 =>
        grd (kO 1 4 && (kO 1 4 && true)) <|
        bnd (sI S1 1 1 ((S1.1 1 1) + (1 : Int32))) fun S2 =>
        bnd (v2 + (-8 : Int32)) fun x3 =>
        fX4_append_3 k v1 x3 S2
def fX4_append (v1 : Int32) (S : mT) : Option (mT) :=
  fX4_append_3 mK v1 (24 : Int32) S
def fX11_feed (v1 : Int32) (v2 : Int32) (v3 : Int32) (v4 : Int32) (v5 : Int32) (S : mT) : Option (Int32 × mT) :=
  grd (kO 1 4 && (kO 0 11 && true)) <|
  if (S.1 1 1) ≤ (1580 : Int32) then
    grd (kO 0 11 && true) <|
    bndV (fX4_append v1 S) fun S1 =>
    grd (kO 0 11 && true) <|
    bndV (fX4_append v2 S1) fun S2 =>
    grd (kO 0 11 && true) <|
    bndV (fX4_append v3 S2) fun S3 =>
    grd (kO 0 11 && true) <|
    bndV (fX4_append v4 S3) fun S4 =>
    grd (kO 0 11 && true) <|
    bndV (fX4_append v5 S4) fun S5 =>
    grd (kO 1 4 && (kO 0 11 && true)) <|
    some ((S5.1 1 1), S5)
  else
    some ((-1 : Int32), S)
def fX11_leaveOne (v1 : Int32) (S : mT) : Option (mT) :=
  grd (kI 35 ((0 : Int32) + v1) && (kI 35 ((0 : Int32) + v1) && (kO 0 11 && true))) <|
  bnd (sI S 35 (mIx ((0 : Int32) + v1)) ((S.1 35 (mIx ((0 : Int32) + v1))) - (1 : Int32))) fun S1 =>
  grd (kO 0 11 && (kO 0 11 && true)) <|
  grd (kI 35 ((0 : Int32) + v1) && (kO 0 11 && (kI 35 ((5 : Int32) + v1) && true))) <|
  bnd (if (S1.1 35 (mIx ((0 : Int32) + v1))) < (S1.1 35 (mIx ((5 : Int32) + v1))) then (S1.1 35 (mIx ((0 : Int32) + v1))) else (S1.1 35 (mIx ((5 : Int32) + v1)))) fun x2 =>
  grd (kI 35 ((5 : Int32) + v1) && true) <|
  bnd (sI S1 35 (mIx ((5 : Int32) + v1)) x2) fun S3 =>
  some S3
def fX11_goes_19 (b : Bool) (S : mT) : Option (Int32 × mT) :=
  some ((-1 : Int32), S)
def fX11_goes (b : Bool) (v1 : Int32) (S : mT) : Option (Int32 × mT) :=
  bndC (fX11_isHouse b v1 S) fun x2 S1 =>
  if x2 = 0 then
    fX11_goes_19 b S1
  else
    grd (kI 35 ((0 : Int32) + v1) && (kO 0 11 && true)) <|
    if 0 < (S1.1 35 (mIx ((0 : Int32) + v1))) then
      bndV (fX11_leaveOne v1 S1) fun S3 =>
      grd (kO 0 11 && (kO 0 11 && true)) <|
      bndV (fX2_keep 35 S3) fun S4 =>
      grd (kI 35 ((0 : Int32) + v1) && (kO 0 11 && true)) <|
      some ((S4.1 35 (mIx ((0 : Int32) + v1))), S4)
    else
      fX11_goes_19 b S1
def fX11_hide_24 (b : Bool) (S : mT) : Option (Int32 × mT) :=
  some ((-1 : Int32), S)
def fX11_hide (b : Bool) (v1 : Int32) (v2 : Int32) (S : mT) : Option (Int32 × mT) :=
  bndC (fX11_isHouse b v1 S) fun x2 S1 =>
  if x2 = 0 then
    fX11_hide_24 b S1
  else
    if v2 < 0 then
      fX11_hide_24 b S1
    else
      grd (kI 35 ((0 : Int32) + v1) && (kO 0 11 && true)) <|
      if v2 ≤ (S1.1 35 (mIx ((0 : Int32) + v1))) then
        grd (kI 35 ((5 : Int32) + v1) && (kO 0 11 && true)) <|
        bnd (S1.1 35 (mIx ((5 : Int32) + v1))) fun x3 =>
        grd (kI 35 ((5 : Int32) + v1) && (kO 0 11 && true)) <|
        bnd (sI S1 35 (mIx ((5 : Int32) + v1)) v2) fun S4 =>
        grd (kO 0 11 && (kO 0 11 && true)) <|
        bndV (fX2_keep 35 S4) fun S5 =>
        some (x3, S5)
      else
        fX11_hide_24 b S1
def fX2_fillBox (a2 : Nat) (v1 : Int32) (S : mT) : Option (mT) :=
  grd (kC a2 (rowR 80 (mIx v1)) (0 : Int32) (0 : Int32) (17 : Int32) && (kR 80 v1 && (kO 37 2 && true))) <|
  bnd (sC S a2 (rowR 80 (mIx v1)) (0 : Int32) (0 : Int32) (17 : Int32)) fun S1 =>
  grd (kB 84 v1 && (kO 37 2 && true)) <|
  bnd (sI S1 84 (mIx v1) (kN 84 (1 : Int32))) fun S2 =>
  some S2
def fX11_image (v1 : Int32) (S : mT) : Option (Int32 × mT) :=
  bndC (fX11_isWithin v1 (0 : Int32) (2 : Int32) S) fun x2 S1 =>
  if x2 = 0 then
    some ((-1 : Int32), S1)
  else
    grd (kO 0 11 && (kO 0 11 && true)) <|
    bndV (fX2_fillBox 35 v1 S1) fun S3 =>
    grd (kI 35 (15 : Int32) && (kO 0 11 && true)) <|
    some ((S3.1 35 (mIx (15 : Int32))), S3)
def fX5_countingAt_60 (rc4 : Int32 → Int32 → Int32 → mT → Option (Int32 × mT)) (v1 : Int32) (v2 : Int32) (v3 : Int32) (S : mT) : Option (Int32 × mT) :=
  bnd (v3 + (1 : Int32)) fun x2 =>
  rc4 v1 v2 x2 S
def fX5_countingAt_37 (rc4 : Int32 → Int32 → Int32 → mT → Option (Int32 × mT)) (v1 : Int32) (v2 : Int32) (v3 : Int32) (s0 : Int32) (S : mT) : Option (Int32 × mT) :=
  grd (kI 118 v3 && (kO 114 5 && true)) <|
  if v1 < (S.1 118 (mIx v3)) then
    fX5_countingAt_60 rc4 v1 v2 v3 S
  else
    if s0 = 0 then
      bnd (v2 ||| ((1 : Int32) <<< (v3 &&& 31))) fun x1 =>
      fX5_countingAt_60 rc4 v1 x1 v3 S
    else
      fX5_countingAt_60 rc4 v1 v2 v3 S
def fX5_countingAt_36 (rc4 : Int32 → Int32 → Int32 → mT → Option (Int32 × mT)) (v1 : Int32) (v2 : Int32) (v3 : Int32) (S : mT) : Option (Int32 × mT) :=
  fX5_countingAt_37 rc4 v1 v2 v3 (0 : Int32) S
def fX5_countingAt_4 : Nat → Int32 → Int32 → Int32 → mT → Option (Int32 × mT)
  | 0, _, _, _, _ => none
  | k + 1, v1, v2, v3, S =>
    grd (kO 114 5 && true) <|
    if (S.1 114 5) ≤ v3 then
      some (v2, S)
    else
      grd (kI 119 v3 && (kO 114 5 && true)) <|
      if (S.1 119 (mIx v3)) = (-1 : Int32) then
        fX5_countingAt_36 (fX5_countingAt_4 k) v1 v2 v3 S
      else
        grd (kI 119 v3 && (kO 114 5 && true)) <|
        if v1 < (S.1 119 (mIx v3)) then
          fX5_countingAt_36 (fX5_countingAt_4 k) v1 v2 v3 S
        else
          fX5_countingAt_37 (fX5_countingAt_4 k) v1 v2 v3 (1 : Int32) S
def fX5_countingAt (v1 : Int32) (S : mT) : Option (Int32 × mT) :=
  fX5_countingAt_4 mK v1 (0 : Int32) (0 : Int32) S
def fX11_learn (b : Bool) (v1 : Int32) (S : mT) : Option (mT) :=
  grd (kO 0 11 && (kO 0 11 && (kO 0 11 && true))) <|
  bndC (fX5_countingAt v1 S) fun x2 S1 =>
  grd (kO (shU b) 8 && (kO 0 11 && true)) <|
  bndV (fX10_learn x2 (S1.1 (shU b) 9) S1) fun S3 =>
  some S3
def fX11_knock_19 (b : Bool) (S : mT) : Option (Int32 × mT) :=
  some ((-1 : Int32), S)
def fX11_knock_62 (b : Bool) (s0 : Int32) (S : mT) : Option (Int32 × mT) :=
  some (s0, S)
def fX11_knock (b : Bool) (v1 : Int32) (v2 : Int32) (S : mT) : Option (Int32 × mT) :=
  bndC (fX11_isWithin v1 (0 : Int32) (1 : Int32) S) fun x2 S1 =>
  if x2 = 0 then
    fX11_knock_19 b S1
  else
    grd (kO (shU b) 8 && (kO 0 11 && true)) <|
    if (S1.1 (shU b) 9) = 0 then
      fX11_knock_19 b S1
    else
      bndV (fX11_learn b v2 S1) fun S3 =>
      grd (kO 120 10 && (kO 0 11 && true)) <|
      if (S3.1 120 8) = 0 then
        some ((-1 : Int32), S3)
      else
        grd (kO 0 11 && true) <|
        bndC (fX10_bestToSee S3) fun x5 S4 =>
        if v1 = 0 then
          fX11_knock_62 b x5 S4
        else
          grd (kO 0 11 && true) <|
          bndC (fX10_leftBySeeing x5 S4) fun x7 S6 =>
          fX11_knock_62 b x7 S6
def fX11_later_22 (S : mT) : Option (Int32 × mT) :=
  some ((-1 : Int32), S)
def fX11_later (v1 : Int32) (S : mT) : Option (Int32 × mT) :=
  bndC (fX11_isWithin v1 (0 : Int32) (1000 : Int32) S) fun x2 S1 =>
  if x2 = 0 then
    fX11_later_22 S1
  else
    grd (kO 0 11 && true) <|
    if ((S1.1 0 14) + v1) ≤ (100000 : Int32) then
      grd (kO 0 11 && (kO 0 11 && true)) <|
      bnd (sI S1 0 14 ((S1.1 0 14) + v1)) fun S3 =>
      grd (kO 0 11 && true) <|
      some ((S3.1 0 14), S3)
    else
      fX11_later_22 S1
def fX1_leastTax_18 (rc4 : Int32 → Int32 → mT → Option (Int32 × mT)) : Nat → Int32 → Int32 → Int32 → Int32 → mT → Option (Int32 × mT)
  | 0, _, _, _, _, _ => none
  | k + 1, v1, v2, v3, v4, S =>
    if (7 : Int32) < v4 then
      if v3 < (1000000 : Int32) then
        bnd (v1 + v3) fun x1 =>
        bnd (v2 + (1 : Int32)) fun x2 =>
        rc4 x1 x2 S
      else
        some ((-1 : Int32), S)
    else
      grd (kI (rowR 86 (mIx v2)) v4 && (kR 86 v2 && (kO 85 1 && true))) <|
      bnd (if (S.1 (rowR 86 (mIx v2)) (mIx v4)) < v3 then (S.1 (rowR 86 (mIx v2)) (mIx v4)) else v3) fun x3 =>
      bnd (v4 + (1 : Int32)) fun x4 =>
      fX1_leastTax_18 rc4 k v1 v2 x3 x4 S
def fX1_leastTax_4 : Nat → Int32 → Int32 → mT → Option (Int32 × mT)
  | 0, _, _, _ => none
  | k + 1, v1, v2, S =>
    grd (kO 85 1 && true) <|
    if (S.1 85 3) ≤ v2 then
      some (v1, S)
    else
      fX1_leastTax_18 (fX1_leastTax_4 k) mK v1 v2 (1000000 : Int32) (0 : Int32) S
def fX1_leastTax (S : mT) : Option (Int32 × mT) :=
  fX1_leastTax_4 mK (0 : Int32) (0 : Int32) S
def fX1_taxHiding_36 (a0 : Nat) (a1 : Nat) (s0 : Int32) (S : mT) : Option (Int32 × mT) :=
  some (s0, S)
def fX1_taxHiding (a0 : Nat) (a1 : Nat) (v2 : Int32) (v3 : Int32) (S : mT) : Option (Int32 × mT) :=
  bndC (fX8_stonesHiding a0 a1 v2 v3 S) fun x2 S1 =>
  grd (kI (a0 + 4) v2 && (kO a0 8 && true)) <|
  if (S1.1 (a0 + 4) (mIx v2)) ≤ x2 then
    grd (kI a1 (15 : Int32) && true) <|
    bndC (fX8_taxOf a0 x2 v2 (S1.1 a1 (mIx (15 : Int32))) S1) fun x4 S3 =>
    fX1_taxHiding_36 a0 a1 x4 S3
  else
    fX1_taxHiding_36 a0 a1 (1000000 : Int32) S1
def fX1_look_59 (a1 : Nat) (a2 : Nat) (rc10 : Int32 → mT → Option (mT)) (rc21 : Int32 → Int32 → mT → Option (mT)) (v3 : Int32) (v4 : Int32) (s0 : Int32) (s1 : Int32) (S : mT) : Option (mT) :=
  grd (kI (rowR 86 (mIx v3)) s1 && true) <|
  bnd (sI S (rowR 86 (mIx v3)) (mIx s1) s0) fun S5 =>
  bnd (v4 + (1 : Int32)) fun x6 =>
  rc21 v3 x6 S5
def fX1_look_21 (a1 : Nat) (a2 : Nat) (rc10 : Int32 → mT → Option (mT)) : Nat → Int32 → Int32 → mT → Option (mT)
  | 0, _, _, _ => none
  | k + 1, v3, v4, S =>
    if (7 : Int32) < v4 then
      bnd (v3 + (1 : Int32)) fun x2 =>
      rc10 x2 S
    else
      grd (kR 86 v3 && (kO 85 1 && true)) <|
      grd (kI a2 ((0 : Int32) + v3) && true) <|
      if (S.1 a2 (mIx ((0 : Int32) + v3))) < v4 then
        fX1_look_59 a1 a2 rc10 (fX1_look_21 a1 a2 rc10 k) v3 v4 (1000000 : Int32) v4 S
      else
        bndC (fX1_taxHiding a1 a2 v3 v4 S) fun x4 S3 =>
        fX1_look_59 a1 a2 rc10 (fX1_look_21 a1 a2 rc10 k) v3 v4 x4 v4 S3
def fX1_look_10 (a1 : Nat) (a2 : Nat) : Nat → Int32 → mT → Option (mT)
  | 0, _, _ => none
  | k + 1, v3, S =>
    grd (kO 85 1 && true) <|
    if (S.1 85 3) ≤ v3 then
      some S
    else
      fX1_look_21 a1 a2 (fX1_look_10 a1 a2 k) mK v3 (0 : Int32) S
def fX1_look (a1 : Nat) (a2 : Nat) (S : mT) : Option (mT) :=
  grd (kO 85 1 && (kO a1 8 && true)) <|
  bnd (sI S 85 3 (S.1 a1 9)) fun S1 =>
  fX1_look_10 a1 a2 mK (0 : Int32) S1
def fX11_least (b : Bool) (S : mT) : Option (Int32 × mT) :=
  grd (kO 0 11 && (kO 0 11 && (kO 0 11 && true))) <|
  bndV (fX1_look (shU b) 35 S) fun S1 =>
  grd (kO 0 11 && true) <|
  bndC (fX1_leastTax S1) fun x3 S2 =>
  some (x3, S2)
def fX1_firstThatFits_52 (v3 : Int32) (S : mT) : Option (Int32 × mT) :=
  bnd (if v3 < (7 : Int32) then v3 else (7 : Int32)) fun x2 =>
  some (x2, S)
def fX1_firstThatFits_3 : Nat → Int32 → Int32 → Int32 → Int32 → mT → Option (Int32 × mT)
  | 0, _, _, _, _, _ => none
  | k + 1, v1, v2, v3, v4, S =>
    if (7 : Int32) ≤ v4 then
      fX1_firstThatFits_52 v3 S
    else
      if v3 ≤ v4 then
        fX1_firstThatFits_52 v3 S
      else
        grd (kO 85 1 && (kI (rowR 86 (mIx v1)) v4 && (kR 86 v1 && (kO 85 1 && true)))) <|
        grd (kI (rowR 92 (mIx (v1 + (1 : Int32)))) (v3 - v4) && (kR 92 (v1 + (1 : Int32)) && true)) <|
        if v2 < ((S.1 (rowR 86 (mIx v1)) (mIx v4)) + (S.1 (rowR 92 (mIx (v1 + (1 : Int32)))) (mIx (v3 - v4)))) then
          bnd (v4 + (1 : Int32)) fun x1 =>
          fX1_firstThatFits_3 k v1 v2 v3 x1 S
        else
          some (v4, S)
def fX1_firstThatFits (v1 : Int32) (v2 : Int32) (v3 : Int32) (S : mT) : Option (Int32 × mT) :=
  fX1_firstThatFits_3 mK v1 v2 v3 (0 : Int32) S
def fX1_pickFirst_8 : Nat → Int32 → Int32 → Int32 → mT → Option (mT)
  | 0, _, _, _, _ => none
  | k + 1, v3, v4, v5, S =>
    grd (kO 85 1 && true) <|
    if (S.1 85 3) ≤ v5 then
      some S
    else
      bndC (fX1_firstThatFits v5 v3 v4 S) fun x2 S1 =>
      grd (kI 99 v5 && (kO 85 1 && true)) <|
      bnd (sI S1 99 (mIx v5) x2) fun S3 =>
      grd (kI (rowR 86 (mIx v5)) x2 && (kR 86 v5 && (kO 85 1 && true))) <|
      bnd (v3 - (S3.1 (rowR 86 (mIx v5)) (mIx x2))) fun x4 =>
      bnd (v4 - x2) fun x5 =>
      bnd (v5 + (1 : Int32)) fun x6 =>
      fX1_pickFirst_8 k x4 x5 x6 S3
def fX1_pickFirst (v1 : Int32) (v2 : Int32) (S : mT) : Option (mT) :=
  fX1_pickFirst_8 mK v1 v2 (0 : Int32) S
def fX1_cheapestFrom_53 (v3 : Int32) (S : mT) : Option (Int32 × mT) :=
  some (v3, S)
def fX1_cheapestFrom_6 : Nat → Int32 → Int32 → Int32 → Int32 → mT → Option (Int32 × mT)
  | 0, _, _, _, _, _ => none
  | k + 1, v1, v2, v3, v4, S =>
    if (7 : Int32) < v4 then
      fX1_cheapestFrom_53 v3 S
    else
      if v2 < v4 then
        fX1_cheapestFrom_53 v3 S
      else
        grd (kO 85 1 && (kI (rowR 86 (mIx v1)) v4 && (kR 86 v1 && (kO 85 1 && true)))) <|
        grd (kI (rowR 92 (mIx (v1 + (1 : Int32)))) (v2 - v4) && (kR 92 (v1 + (1 : Int32)) && true)) <|
        bnd (if ((S.1 (rowR 86 (mIx v1)) (mIx v4)) + (S.1 (rowR 92 (mIx (v1 + (1 : Int32)))) (mIx (v2 - v4)))) < v3 then ((S.1 (rowR 86 (mIx v1)) (mIx v4)) + (S.1 (rowR 92 (mIx (v1 + (1 : Int32)))) (mIx (v2 - v4)))) else v3) fun x1 =>
        bnd (v4 + (1 : Int32)) fun x2 =>
        fX1_cheapestFrom_6 k v1 v2 x1 x2 S
def fX1_cheapestFrom (v1 : Int32) (v2 : Int32) (S : mT) : Option (Int32 × mT) :=
  fX1_cheapestFrom_6 mK v1 v2 (1000000 : Int32) (0 : Int32) S
def fX1_weighFromTheEnd_39 (rc33 : Int32 → mT → Option (mT)) : Nat → Int32 → Int32 → mT → Option (mT)
  | 0, _, _, _ => none
  | k + 1, v1, v2, S =>
    if (35 : Int32) < v2 then
      bnd (v1 + (-1 : Int32)) fun x4 =>
      rc33 x4 S
    else
      grd (kR 92 v1 && (kO 85 1 && true)) <|
      bndC (fX1_cheapestFrom v1 v2 S) fun x6 S5 =>
      grd (kI (rowR 92 (mIx v1)) v2 && true) <|
      bnd (sI S5 (rowR 92 (mIx v1)) (mIx v2) x6) fun S7 =>
      bnd (v2 + (1 : Int32)) fun x8 =>
      fX1_weighFromTheEnd_39 rc33 k v1 x8 S7
def fX1_weighFromTheEnd_33 : Nat → Int32 → mT → Option (mT)
  | 0, _, _ => none
  | k + 1, v1, S =>
    if v1 < 0 then
      some S
    else
      fX1_weighFromTheEnd_39 (fX1_weighFromTheEnd_33 k) mK v1 (0 : Int32) S
def fX1_weighFromTheEnd (S : mT) : Option (mT) :=
  grd (kR 92 (S.1 85 3) && (kO 85 1 && (kO 85 1 && true))) <|
  bndV (fJ7_fill_53178 (rowR 92 (mIx (S.1 85 3))) (1000000 : Int32) S) fun S1 =>
  grd (kI (rowR 92 (mIx (S1.1 85 3))) (0 : Int32) && (kR 92 (S1.1 85 3) && (kO 85 1 && (kO 85 1 && true)))) <|
  bnd (sI S1 (rowR 92 (mIx (S1.1 85 3))) (mIx (0 : Int32)) (0 : Int32)) fun S2 =>
  grd (kO 85 1 && true) <|
  bnd ((S2.1 85 3) - (1 : Int32)) fun x3 =>
  fX1_weighFromTheEnd_33 mK x3 S2
def fX1_choose_6 : Nat → Int32 → Int32 → mT → Option (Int32 × mT)
  | 0, _, _, _ => none
  | k + 1, v1, v2, S =>
    if (35 : Int32) < v2 then
      some ((-1 : Int32), S)
    else
      grd (kI (rowR 92 (mIx (0 : Int32))) v2 && (kR 92 (0 : Int32) && (kO 85 1 && true))) <|
      if v1 < (S.1 (rowR 92 (mIx (0 : Int32))) (mIx v2)) then
        bnd (v2 + (1 : Int32)) fun x2 =>
        fX1_choose_6 k v1 x2 S
      else
        bndV (fX1_pickFirst v1 v2 S) fun S3 =>
        some (v2, S3)
def fX1_choose (v1 : Int32) (S : mT) : Option (Int32 × mT) :=
  bndV (fX1_weighFromTheEnd S) fun S1 =>
  fX1_choose_6 mK v1 (0 : Int32) S1
def fX11_leave_65 (b : Bool) (v2 : Int32) (S : mT) : Option (Int32 × mT) :=
  some (v2, S)
def fX11_leave (b : Bool) (v1 : Int32) (S : mT) : Option (Int32 × mT) :=
  grd (kO 0 11 && true) <|
  bnd (sI S 0 13 (0 : Int32)) fun S1 =>
  bndC (fX11_isWithin v1 (0 : Int32) (9999 : Int32) S1) fun x3 S2 =>
  if x3 = 0 then
    some ((-1 : Int32), S2)
  else
    grd (kO 0 11 && (kO 0 11 && (kO 0 11 && true))) <|
    bndV (fX1_look (shU b) 35 S2) fun S4 =>
    grd (kO 0 11 && true) <|
    bndC (fX1_choose v1 S4) fun x6 S5 =>
    if x6 = (-1 : Int32) then
      fX11_leave_65 b x6 S5
    else
      grd (kO (shU b) 8 && (kO 0 11 && (kO 85 1 && (kO 0 11 && true)))) <|
      bndV (fX11_lay 99 (S5.1 (shU b) 9) S5) fun S7 =>
      fX11_leave_65 b x6 S7
def fX3_leastAgainst_47 (v3 : Int32) (S : mT) : Option (Int32 × mT) :=
  some (v3, S)
def fX3_leastAgainst_14 : Nat → Int32 → Int32 → Int32 → Int32 → mT → Option (Int32 × mT)
  | 0, _, _, _, _, _ => none
  | k + 1, v1, v2, v3, v4, S =>
    if v2 < v4 then
      fX3_leastAgainst_47 v3 S
    else
      if (35 : Int32) < v4 then
        fX3_leastAgainst_47 v3 S
      else
        grd (kI (rowR 141 (mIx v1)) v4 && (kR 141 v1 && (kO 140 3 && true))) <|
        bnd (if (S.1 (rowR 141 (mIx v1)) (mIx v4)) < v3 then (S.1 (rowR 141 (mIx v1)) (mIx v4)) else v3) fun x4 =>
        bnd (v4 + (1 : Int32)) fun x5 =>
        fX3_leastAgainst_14 k v1 v2 x4 x5 S
def fX3_leastAgainst (v1 : Int32) (S : mT) : Option (Int32 × mT) :=
  bndC (fJ6_bitCount_0f7a4 v1 S) fun x2 S1 =>
  bnd ((7 : Int32) * x2) fun x3 =>
  fX3_leastAgainst_14 mK v1 x3 (30 : Int32) (0 : Int32) S1
def fX3_countOwed_37 (rc17 : Int32 → mT → Option (mT)) : Nat → Int32 → Int32 → mT → Option (mT)
  | 0, _, _, _ => none
  | k + 1, v1, v2, S =>
    grd (kI 182 v1 && (kO 174 9 && (kO 140 3 && true))) <|
    if (S.1 182 (mIx v1)) ≤ v2 then
      bnd (v1 + (-1 : Int32)) fun x4 =>
      rc17 x4 S
    else
      grd (kO 174 9 && (kO 140 3 && (kI 183 v1 && (kO 140 3 && true)))) <|
      grd (kI (rowR 176 (mIx v1)) v2 && (kR 176 v1 && true)) <|
      bndC (fX3_leastAgainst ((S.1 (rowR 176 (mIx v1)) (mIx v2)) ||| ((1 : Int32) <<< (v1 &&& 31))) S) fun x6 S5 =>
      grd (kI 183 v1 && true) <|
      bnd (sI S5 183 (mIx v1) ((S.1 183 (mIx v1)) + x6)) fun S7 =>
      bnd (v2 + (1 : Int32)) fun x8 =>
      fX3_countOwed_37 rc17 k v1 x8 S7
def fX3_countOwed_17 : Nat → Int32 → mT → Option (mT)
  | 0, _, _ => none
  | k + 1, v1, S =>
    if v1 < 0 then
      some S
    else
      grd (kI 183 v1 && (kI 183 (v1 + (1 : Int32)) && (kO 140 3 && (kO 140 3 && true)))) <|
      bnd (sI S 183 (mIx v1) (S.1 183 (mIx (v1 + (1 : Int32))))) fun S3 =>
      fX3_countOwed_37 (fX3_countOwed_17 k) mK v1 (0 : Int32) S3
def fX3_countOwed (S : mT) : Option (mT) :=
  grd (kI 183 (S.1 140 6) && (kO 140 3 && (kO 140 3 && true))) <|
  bnd (sI S 183 (mIx (S.1 140 6)) (0 : Int32)) fun S1 =>
  grd (kO 140 3 && true) <|
  bnd ((S1.1 140 6) - (1 : Int32)) fun x2 =>
  fX3_countOwed_17 mK x2 S1
def fX3_againstWith_5 : Nat → Int32 → Int32 → Int32 → Int32 → mT → Option (Int32 × mT)
  | 0, _, _, _, _, _ => none
  | k + 1, v1, v2, v3, v4, S =>
    grd (kI 182 v1 && (kO 174 9 && (kO 140 3 && true))) <|
    if (S.1 182 (mIx v1)) ≤ v4 then
      some (v3, S)
    else
      grd (kI (rowR 176 (mIx v1)) v4 && (kR 176 v1 && (kO 174 9 && (kO 140 3 && true)))) <|
      bnd (S.1 (rowR 176 (mIx v1)) (mIx v4)) fun x1 =>
      grd (kR 141 (x1 ||| ((1 : Int32) <<< (v1 &&& 31))) && (kO 140 3 && true)) <|
      grd (kI (rowR 141 (mIx (x1 ||| ((1 : Int32) <<< (v1 &&& 31))))) ((S.1 175 (mIx x1)) + v2) && (kI 175 x1 && (kO 174 9 && (kO 140 3 && true)))) <|
      bnd (v3 + (S.1 (rowR 141 (mIx (x1 ||| ((1 : Int32) <<< (v1 &&& 31))))) (mIx ((S.1 175 (mIx x1)) + v2)))) fun x2 =>
      bnd (v4 + (1 : Int32)) fun x3 =>
      fX3_againstWith_5 k v1 v2 x2 x3 S
def fX3_againstWith (v1 : Int32) (v2 : Int32) (S : mT) : Option (Int32 × mT) :=
  fX3_againstWith_5 mK v1 v2 (0 : Int32) (0 : Int32) S
def fX3_searchFrom_110 (self : Int32 → Int32 → mT → Option (mT)) (rc49 : Int32 → Int32 → Int32 → mT → Option (mT)) (v1 : Int32) (v2 : Int32) (v3 : Int32) (S : mT) : Option (mT) :=
  bnd (v3 + (1 : Int32)) fun x8 =>
  rc49 v1 v2 x8 S
def fX3_searchFrom_49 (self : Int32 → Int32 → mT → Option (mT)) : Nat → Int32 → Int32 → Int32 → mT → Option (mT)
  | 0, _, _, _, _ => none
  | k + 1, v1, v2, v3, S =>
    if (7 : Int32) < v3 then
      some S
    else
      bndC (fX3_againstWith v1 v3 S) fun x4 S3 =>
      grd (kI 184 v1 && (kO 140 3 && true)) <|
      bnd (sI S3 184 (mIx v1) v3) fun S5 =>
      grd (kI 183 (v1 + (1 : Int32)) && (kO 140 3 && true)) <|
      grd (kO 140 3 && true) <|
      if (S5.1 140 5) ≤ ((v2 + x4) + (S5.1 183 (mIx (v1 + (1 : Int32))))) then
        fX3_searchFrom_110 self (fX3_searchFrom_49 self k) v1 v2 v3 S5
      else
        grd (kO 140 3 && true) <|
        bndV (fX9_setHeads 174 v1 v3 S5) fun S6 =>
        bndV (self (v1 + (1 : Int32)) (v2 + x4) S6) fun S7 =>
        fX3_searchFrom_110 self (fX3_searchFrom_49 self k) v1 v2 v3 S7
def fX3_searchFrom_0 (self : Int32 → Int32 → mT → Option (mT)) (v1 : Int32) (v2 : Int32) (S : mT) : Option (mT) :=
  grd (kO 140 3 && (kI 183 v1 && (kO 140 3 && true))) <|
  if (v2 + (S.1 183 (mIx v1))) < (S.1 140 5) then
    grd (kO 140 3 && true) <|
    if v1 < (S.1 140 6) then
      fX3_searchFrom_49 self mK v1 v2 (0 : Int32) S
    else
      grd (kO 140 3 && true) <|
      bnd (sI S 140 5 v2) fun S1 =>
      grd (kC 184 185 (0 : Int32) (0 : Int32) (S1.1 140 6) && (kO 140 3 && (kO 140 3 && (kO 140 3 && true)))) <|
      bnd (sC S1 184 185 (0 : Int32) (0 : Int32) (S1.1 140 6)) fun S2 =>
      some S2
  else
    some S
def fX3_searchFrom : Nat → Int32 → Int32 → mT → Option (mT)
  | 0, _, _, _ => none
  | d + 1, v1, v2, S => fX3_searchFrom_0 (fX3_searchFrom d) v1 v2 S
def fX3_takeReports_85 (rc4 : Int32 → Int32 → mT → Option (Int32 × mT)) (rc42 : Int32 → Int32 → Int32 → Int32 → mT → Option (Int32 × mT)) (v2 : Int32) (v3 : Int32) (v4 : Int32) (v5 : Int32) (S : mT) : Option (Int32 × mT) :=
  bnd (v5 + (1 : Int32)) fun x5 =>
  rc42 v2 v3 v4 x5 S
def fX3_takeReports_71 (rc4 : Int32 → Int32 → mT → Option (Int32 × mT)) (rc42 : Int32 → Int32 → Int32 → Int32 → mT → Option (Int32 × mT)) (v2 : Int32) (v3 : Int32) (v4 : Int32) (v5 : Int32) (S : mT) : Option (Int32 × mT) :=
  grd (kI (rowR 141 (mIx v4)) v5 && (kI (rowR 141 (mIx v4)) v5 && (kR 141 v4 && (kO 140 3 && true)))) <|
  bnd (sI S (rowR 141 (mIx v4)) (mIx v5) ((S.1 (rowR 141 (mIx v4)) (mIx v5)) + (1 : Int32))) fun S4 =>
  fX3_takeReports_85 rc4 rc42 v2 v3 v4 v5 S4
def fX3_takeReports_91 (rc4 : Int32 → Int32 → mT → Option (Int32 × mT)) (v2 : Int32) (v3 : Int32) (S : mT) : Option (Int32 × mT) :=
  bnd (v3 + (1 : Int32)) fun x3 =>
  rc4 v2 x3 S
def fX3_takeReports_42 (rc4 : Int32 → Int32 → mT → Option (Int32 × mT)) : Nat → Int32 → Int32 → Int32 → Int32 → mT → Option (Int32 × mT)
  | 0, _, _, _, _, _ => none
  | k + 1, v2, v3, v4, v5, S =>
    if (35 : Int32) < v5 then
      fX3_takeReports_91 rc4 v2 v3 S
    else
      grd (kI 116 v3 && (kO 114 5 && true)) <|
      if v5 < (S.1 116 (mIx v3)) then
        fX3_takeReports_71 rc4 (fX3_takeReports_42 rc4 k) v2 v3 v4 v5 S
      else
        grd (kI 117 v3 && (kO 114 5 && true)) <|
        if v5 ≤ (S.1 117 (mIx v3)) then
          fX3_takeReports_85 rc4 (fX3_takeReports_42 rc4 k) v2 v3 v4 v5 S
        else
          fX3_takeReports_71 rc4 (fX3_takeReports_42 rc4 k) v2 v3 v4 v5 S
def fX3_takeReports_4 : Nat → Int32 → Int32 → mT → Option (Int32 × mT)
  | 0, _, _, _ => none
  | k + 1, v2, v3, S =>
    grd (kO 114 5 && true) <|
    if (S.1 114 5) ≤ v3 then
      some (v2, S)
    else
      grd (kO 140 3 && true) <|
      if (((S.1 140 7) >>> (v3 &&& 31)) &&& (1 : Int32)) = (1 : Int32) then
        grd (kI 115 v3 && (kO 114 5 && true)) <|
        bnd (S.1 115 (mIx v3)) fun x1 =>
        bnd (v2 ||| ((1 : Int32) <<< (x1 &&& 31))) fun x2 =>
        fX3_takeReports_42 (fX3_takeReports_4 k) mK x2 v3 x1 (0 : Int32) S
      else
        fX3_takeReports_91 (fX3_takeReports_4 k) v2 v3 S
def fX3_takeReports (S : mT) : Option (Int32 × mT) :=
  fX3_takeReports_4 mK (0 : Int32) (0 : Int32) S
def fX3_learn_42 : Nat → Int32 → mT → Option (mT)
  | 0, _, _ => none
  | k + 1, v4, S =>
    if (32 : Int32) ≤ v4 then
      grd (kO 140 3 && true) <|
      bndC (fX3_takeReports S) fun x5 S4 =>
      grd (kO 140 3 && true) <|
      bndC (fX9_list 174 x5 (S4.1 140 6) S4) fun x7 S6 =>
      bndV (fX3_countOwed S6) fun S8 =>
      grd (kO 140 3 && true) <|
      bndC (fJ6_bitCount_0f7a4 (S8.1 140 7) S8) fun x10 S9 =>
      grd (kO 140 3 && true) <|
      bnd (sI S9 140 5 (x10 + (1 : Int32))) fun S11 =>
      bndV (fX3_searchFrom 16 (0 : Int32) (0 : Int32) S11) fun S12 =>
      some S12
    else
      grd (kR 141 v4 && (kO 140 3 && true)) <|
      bndV (fJ7_fill_53178 (rowR 141 (mIx v4)) (0 : Int32) S) fun S13 =>
      bnd (v4 + (1 : Int32)) fun x14 =>
      fX3_learn_42 k x14 S13
def fX3_learn_24 (v2 : Int32) (v3 : Int32) (S : mT) : Option (mT) :=
  grd (mFit .boolean (1 : Int32) && (kO 140 3 && true)) <|
  bnd (sI S 140 8 (1 : Int32)) fun S1 =>
  grd (kO 140 3 && true) <|
  bnd (sI S1 140 7 v2) fun S2 =>
  grd (kO 140 3 && true) <|
  bnd (sI S2 140 6 v3) fun S3 =>
  fX3_learn_42 mK (0 : Int32) S3
def fX3_learn (v2 : Int32) (v3 : Int32) (S : mT) : Option (mT) :=
  grd (kO 140 3 && true) <|
  if (S.1 140 8) = 0 then
    fX3_learn_24 v2 v3 S
  else
    grd (kO 140 3 && true) <|
    if (S.1 140 7) = v2 then
      grd (kO 140 3 && true) <|
      if (S.1 140 6) = v3 then
        some S
      else
        fX3_learn_24 v2 v3 S
    else
      fX3_learn_24 v2 v3 S
def fX11_liars (b : Bool) (v1 : Int32) (S : mT) : Option (Int32 × mT) :=
  grd (kO 0 11 && (kO 0 11 && (kO 0 11 && true))) <|
  bndC (fX5_countingAt v1 S) fun x2 S1 =>
  grd (kO (shU b) 8 && (kO 0 11 && true)) <|
  bndV (fX3_learn x2 (S1.1 (shU b) 9) S1) fun S3 =>
  grd (kO (shU b) 8 && (kO 0 11 && (kO 140 3 && (kO 0 11 && true)))) <|
  bndV (fX11_lay 185 (S3.1 (shU b) 9) S3) fun S4 =>
  grd (kO 140 3 && (kO 0 11 && true)) <|
  some ((S4.1 140 5), S4)
def fX11_lies_22 (s0 : Int32) (S : mT) : Option (Int32 × mT) :=
  some (s0, S)
def fX11_lies_21 (S : mT) : Option (Int32 × mT) :=
  fX11_lies_22 (-1 : Int32) S
def fX11_lies (v1 : Int32) (S : mT) : Option (Int32 × mT) :=
  if v1 < 0 then
    fX11_lies_21 S
  else
    grd (kO 0 11 && true) <|
    if (S.1 0 13) ≤ v1 then
      fX11_lies_21 S
    else
      grd (kI 186 v1 && (kO 0 11 && true)) <|
      fX11_lies_22 (S.1 186 (mIx v1)) S
def fX7_greatestRest_29 (rc4 : Int32 → Int32 → mT → Option (Int32 × mT)) (v1 : Int32) (v2 : Int32) (S : mT) : Option (Int32 × mT) :=
  bnd (v2 + (1 : Int32)) fun x1 =>
  rc4 v1 x1 S
def fX7_greatestRest_4 : Nat → Int32 → Int32 → mT → Option (Int32 × mT)
  | 0, _, _, _ => none
  | k + 1, v1, v2, S =>
    grd (kO 109 7 && true) <|
    if (S.1 109 4) ≤ v2 then
      some (v1, S)
    else
      grd (kI 112 v1 && (kO 109 7 && (kI 112 v2 && (kO 109 7 && true)))) <|
      if (S.1 112 (mIx v2)) ≤ (S.1 112 (mIx v1)) then
        fX7_greatestRest_29 (fX7_greatestRest_4 k) v1 v2 S
      else
        fX7_greatestRest_29 (fX7_greatestRest_4 k) v2 v2 S
def fX7_greatestRest (S : mT) : Option (Int32 × mT) :=
  fX7_greatestRest_4 mK (0 : Int32) (1 : Int32) S
def fX7_shareByRests_113 (S : mT) : Option (mT) :=
  some S
def fX7_shareByRests_70 : Nat → Int32 → Int32 → mT → Option (mT)
  | 0, _, _, _ => none
  | k + 1, v3, v4, S =>
    if v3 ≤ v4 then
      fX7_shareByRests_113 S
    else
      if (5 : Int32) ≤ v4 then
        fX7_shareByRests_113 S
      else
        bndC (fX7_greatestRest S) fun x7 S6 =>
        grd (kI 111 x7 && (kI 111 x7 && (kO 109 7 && true))) <|
        bnd (sI S6 111 (mIx x7) ((S6.1 111 (mIx x7)) + (1 : Int32))) fun S8 =>
        grd (kI 112 x7 && (kO 109 7 && true)) <|
        bnd (sI S8 112 (mIx x7) (-1 : Int32)) fun S9 =>
        bnd (v4 + (1 : Int32)) fun x10 =>
        fX7_shareByRests_70 k v3 x10 S9
def fX7_shareByRests_67 (v3 : Int32) (S : mT) : Option (mT) :=
  fX7_shareByRests_70 mK v3 (0 : Int32) S
def fX7_shareByRests_5 : Nat → Int32 → Int32 → Int32 → Int32 → mT → Option (mT)
  | 0, _, _, _, _, _ => none
  | k + 1, v1, v2, v3, v4, S =>
    grd (kO 109 7 && true) <|
    if (S.1 109 4) ≤ v4 then
      fX7_shareByRests_67 v3 S
    else
      if v2 ≤ 0 then
        fX7_shareByRests_67 v3 S
      else
        grd (kI 110 v4 && (kO 109 7 && true)) <|
        bnd ((S.1 110 (mIx v4)) * v1) fun x1 =>
        grd (kI 111 v4 && (decide (¬ v2 = 0) && (kO 109 7 && true))) <|
        bnd (sI S 111 (mIx v4) (x1 / v2)) fun S2 =>
        grd (kI 112 v4 && (decide (¬ v2 = 0) && (kO 109 7 && true))) <|
        bnd (sI S2 112 (mIx v4) (x1 - x1 / v2 * v2)) fun S3 =>
        grd (kI 111 v4 && (kO 109 7 && true)) <|
        bnd (v3 - (S3.1 111 (mIx v4))) fun x4 =>
        bnd (v4 + (1 : Int32)) fun x5 =>
        fX7_shareByRests_5 k v1 v2 x4 x5 S3
def fX7_shareByRests (v1 : Int32) (v2 : Int32) (S : mT) : Option (mT) :=
  fX7_shareByRests_5 mK v1 v2 v1 (0 : Int32) S
def fX7_shareOneByOne_59 (rc2 : Int32 → Int32 → mT → Option (mT)) (rc12 : Int32 → Int32 → Int32 → Int32 → mT → Option (mT)) (v1 : Int32) (v2 : Int32) (v3 : Int32) (v4 : Int32) (S : mT) : Option (mT) :=
  bnd (v4 + (1 : Int32)) fun x3 =>
  rc12 v1 v2 v3 x3 S
def fX7_shareOneByOne_12 (rc2 : Int32 → Int32 → mT → Option (mT)) : Nat → Int32 → Int32 → Int32 → Int32 → mT → Option (mT)
  | 0, _, _, _, _, _ => none
  | k + 1, v1, v2, v3, v4, S =>
    grd (kO 109 7 && true) <|
    if (S.1 109 4) ≤ v4 then
      grd (kI 111 v3 && (kI 111 v3 && (kO 109 7 && true))) <|
      bnd (sI S 111 (mIx v3) ((S.1 111 (mIx v3)) + (1 : Int32))) fun S1 =>
      bnd (v2 + (1 : Int32)) fun x2 =>
      rc2 v1 x2 S1
    else
      grd (kI 111 v3 && (kO 109 7 && (kI 110 v4 && (kO 109 7 && true)))) <|
      grd (kI 111 v4 && (kO 109 7 && (kI 110 v3 && (kO 109 7 && true)))) <|
      if ((S.1 110 (mIx v4)) * ((S.1 111 (mIx v3)) + (1 : Int32))) ≤ ((S.1 110 (mIx v3)) * ((S.1 111 (mIx v4)) + (1 : Int32))) then
        fX7_shareOneByOne_59 rc2 (fX7_shareOneByOne_12 rc2 k) v1 v2 v3 v4 S
      else
        fX7_shareOneByOne_59 rc2 (fX7_shareOneByOne_12 rc2 k) v1 v2 v4 v4 S
def fX7_shareOneByOne_2 : Nat → Int32 → Int32 → mT → Option (mT)
  | 0, _, _, _ => none
  | k + 1, v1, v2, S =>
    if v1 ≤ v2 then
      some S
    else
      fX7_shareOneByOne_12 (fX7_shareOneByOne_2 k) mK v1 v2 (0 : Int32) (1 : Int32) S
def fX7_shareOneByOne (v1 : Int32) (S : mT) : Option (mT) :=
  fX7_shareOneByOne_2 mK v1 (0 : Int32) S
def fX7_share_61 (S : mT) : Option (mT) :=
  some S
def fX7_share_5 : Nat → Int32 → Int32 → Int32 → Int32 → mT → Option (mT)
  | 0, _, _, _, _, _ => none
  | k + 1, v1, v2, v3, v4, S =>
    grd (kO 109 7 && true) <|
    if (S.1 109 4) ≤ v4 then
      if v3 = 0 then
        some S
      else
        if v2 = 0 then
          bndV (fX7_shareByRests v1 v3 S) fun S1 =>
          fX7_share_61 S1
        else
          bndV (fX7_shareOneByOne v1 S) fun S2 =>
          fX7_share_61 S2
    else
      grd (kI 110 v4 && (kO 109 7 && true)) <|
      bnd (v3 + (S.1 110 (mIx v4))) fun x3 =>
      grd (kI 111 v4 && (kO 109 7 && true)) <|
      bnd (sI S 111 (mIx v4) (0 : Int32)) fun S4 =>
      bnd (v4 + (1 : Int32)) fun x5 =>
      fX7_share_5 k v1 v2 x3 x5 S4
def fX7_share (v1 : Int32) (v2 : Int32) (S : mT) : Option (mT) :=
  fX7_share_5 mK v1 v2 (0 : Int32) (0 : Int32) S
def fX7_firstLoser_33 : Nat → Int32 → mT → Option (Int32 × mT)
  | 0, _, _ => none
  | k + 1, v2, S =>
    grd (kO 109 7 && true) <|
    if (S.1 109 4) ≤ v2 then
      some ((-1 : Int32), S)
    else
      grd (kI 113 v2 && (kO 109 7 && (kI 111 v2 && (kO 109 7 && true)))) <|
      if (S.1 113 (mIx v2)) ≤ (S.1 111 (mIx v2)) then
        bnd (v2 + (1 : Int32)) fun x4 =>
        fX7_firstLoser_33 k x4 S
      else
        some (v2, S)
def fX7_firstLoser (v1 : Int32) (S : mT) : Option (Int32 × mT) :=
  bndV (fX7_share (v1 - (1 : Int32)) (0 : Int32) S) fun S1 =>
  grd (kC 111 113 (0 : Int32) (0 : Int32) (S1.1 109 4) && (kO 109 7 && (kO 109 7 && (kO 109 7 && true)))) <|
  bnd (sC S1 111 113 (0 : Int32) (0 : Int32) (S1.1 109 4)) fun S2 =>
  bndV (fX7_share v1 (0 : Int32) S2) fun S3 =>
  fX7_firstLoser_33 mK (0 : Int32) S3
def fX7_look (a1 : Nat) (v2 : Int32) (S : mT) : Option (mT) :=
  grd (kO 109 7 && true) <|
  bnd (sI S 109 4 v2) fun S1 =>
  grd (kC a1 110 (10 : Int32) (0 : Int32) (S1.1 109 4) && (kO 109 7 && (kO 109 7 && true))) <|
  bnd (sC S1 a1 110 (10 : Int32) (0 : Int32) (S1.1 109 4)) fun S2 =>
  some S2
def fX11_loss_60 (b : Bool) (s0 : Int32) (S : mT) : Option (Int32 × mT) :=
  some (s0, S)
def fX11_loss_31 (b : Bool) : Nat → Int32 → Int32 → mT → Option (Int32 × mT)
  | 0, _, _, _ => none
  | k + 1, v1, v2, S =>
    if (20 : Int32) < v2 then
      some ((-1 : Int32), S)
    else
      grd (kO 0 11 && true) <|
      bndC (fX7_firstLoser v2 S) fun x5 S4 =>
      if x5 = (-1 : Int32) then
        bnd (v2 + (1 : Int32)) fun x6 =>
        fX11_loss_31 b k v1 x6 S4
      else
        if v1 = 0 then
          fX11_loss_60 b v2 S4
        else
          fX11_loss_60 b x5 S4
def fX11_loss (b : Bool) (v1 : Int32) (S : mT) : Option (Int32 × mT) :=
  bndC (fX11_isWithin v1 (0 : Int32) (1 : Int32) S) fun x2 S1 =>
  if x2 = 0 then
    some ((-1 : Int32), S1)
  else
    grd (kO (shU b) 8 && (kO 0 11 && (kO 0 11 && (kO 0 11 && true)))) <|
    bndV (fX7_look 35 (S1.1 (shU b) 9) S1) fun S3 =>
    fX11_loss_31 b mK v1 (2 : Int32) S3
def fX11_marks_20 (S : mT) : Option (Int32 × mT) :=
  some ((-1 : Int32), S)
def fX11_marks_36 (S : mT) : Option (Int32 × mT) :=
  some ((-1 : Int32), S)
def fX11_marks_83 (v5 : Int32) (S : mT) : Option (Int32 × mT) :=
  some (v5, S)
def fX11_marks_55 : Nat → Int32 → Int32 → Int32 → Int32 → Int32 → mT → Option (Int32 × mT)
  | 0, _, _, _, _, _, _ => none
  | k + 1, v1, v2, v3, v5, v6, S =>
    if (200 : Int32) < v6 then
      fX11_marks_83 v5 S
    else
      if (v1 * v2) ≤ (v6 * v3) then
        fX11_marks_83 v5 S
      else
        bnd (v6 + (1 : Int32)) fun x7 =>
        fX11_marks_55 k v1 v2 v3 v6 x7 S
def fX11_marks (v1 : Int32) (v2 : Int32) (v3 : Int32) (S : mT) : Option (Int32 × mT) :=
  bndC (fX11_isWithin v1 (0 : Int32) (60 : Int32) S) fun x2 S1 =>
  if x2 = 0 then
    fX11_marks_20 S1
  else
    bndC (fX11_isWithin v2 (0 : Int32) (60 : Int32) S1) fun x4 S3 =>
    if x4 = 0 then
      fX11_marks_20 S3
    else
      if v3 < 0 then
        fX11_marks_36 S3
      else
        if v1 < v3 then
          fX11_marks_36 S3
        else
          if v3 ≤ v2 then
            bnd ((v1 + v2) - v3) fun x5 =>
            bnd (x5 + (1 : Int32)) fun x6 =>
            fX11_marks_55 mK v1 v2 v3 x5 x6 S3
          else
            fX11_marks_36 S3
def fX11_missed_49 (b : Bool) (rc14 : Int32 → Int32 → Int32 → Int32 → mT → Option (Int32 × mT)) (v1 : Int32) (v2 : Int32) (v3 : Int32) (v4 : Int32) (S : mT) : Option (Int32 × mT) :=
  bnd (v4 + (1 : Int32)) fun x4 =>
  rc14 v1 v2 v3 x4 S
def fX11_missed_14 (b : Bool) : Nat → Int32 → Int32 → Int32 → Int32 → mT → Option (Int32 × mT)
  | 0, _, _, _, _, _ => none
  | k + 1, v1, v2, v3, v4, S =>
    grd (kO (shU b) 8 && (kO 0 11 && true)) <|
    if (S.1 (shU b) 9) ≤ v4 then
      some (v3, S)
    else
      grd (kI 35 ((10 : Int32) + v4) && (kO 0 11 && true)) <|
      if (v2 - (S.1 35 (mIx ((10 : Int32) + v4)))) = v1 then
        bnd (v3 ||| ((1 : Int32) <<< (v4 &&& 31))) fun x3 =>
        fX11_missed_49 b (fX11_missed_14 b k) v1 v2 x3 v4 S
      else
        fX11_missed_49 b (fX11_missed_14 b k) v1 v2 v3 v4 S
def fX11_missed (b : Bool) (v1 : Int32) (S : mT) : Option (Int32 × mT) :=
  grd (kO 0 11 && true) <|
  bndC (fX11_allBowls b 35 S) fun x2 S1 =>
  fX11_missed_14 b mK v1 x2 (0 : Int32) (0 : Int32) S1
def fX11_moves_21 (b : Bool) (S : mT) : Option (Int32 × mT) :=
  some ((-1 : Int32), S)
def fX11_moves_47 (b : Bool) (S : mT) : Option (Int32 × mT) :=
  some ((-1 : Int32), S)
def fX11_moves (b : Bool) (v1 : Int32) (v2 : Int32) (S : mT) : Option (Int32 × mT) :=
  bndC (fX11_isHouse b v1 S) fun x2 S1 =>
  if x2 = 0 then
    fX11_moves_21 b S1
  else
    bndC (fX11_isHouse b v2 S1) fun x4 S3 =>
    if x4 = 0 then
      fX11_moves_21 b S3
    else
      if v1 = v2 then
        fX11_moves_21 b S3
      else
        grd (kI 35 ((0 : Int32) + v1) && (kO 0 11 && true)) <|
        if (S3.1 35 (mIx ((0 : Int32) + v1))) ≤ 0 then
          fX11_moves_47 b S3
        else
          grd (kI 35 ((0 : Int32) + v2) && (kO 0 11 && true)) <|
          if (S3.1 35 (mIx ((0 : Int32) + v2))) < (7 : Int32) then
            bndV (fX11_leaveOne v1 S3) fun S5 =>
            grd (kI 35 ((0 : Int32) + v2) && (kI 35 ((0 : Int32) + v2) && (kO 0 11 && true))) <|
            bnd (sI S5 35 (mIx ((0 : Int32) + v2)) ((S5.1 35 (mIx ((0 : Int32) + v2))) + (1 : Int32))) fun S6 =>
            grd (kO 0 11 && (kO 0 11 && true)) <|
            bndV (fX2_keep 35 S6) fun S7 =>
            grd (kI 35 ((0 : Int32) + v2) && (kO 0 11 && true)) <|
            some ((S7.1 35 (mIx ((0 : Int32) + v2))), S7)
          else
            fX11_moves_47 b S3
def fX6_busyWith (v1 : Int32) (v2 : Int32) (S : mT) : Option (Int32 × mT) :=
  grd (kO 100 6 && (kI 104 v1 && (kO 100 6 && (kO 100 6 && true)))) <|
  grd (kI 101 v2 && true) <|
  bnd (if (S.1 104 (mIx v1)) < (S.1 101 (mIx v2)) then (S.1 101 (mIx v2)) else (S.1 104 (mIx v1))) fun x1 =>
  grd (kI 104 v1 && true) <|
  bnd (sI S 104 (mIx v1) x1) fun S2 =>
  grd (kI 102 v2 && (kO 100 6 && (kI 105 v1 && (kO 100 6 && true)))) <|
  grd (kI 105 v1 && true) <|
  bnd (sI S2 105 (mIx v1) ((S2.1 105 (mIx v1)) + (S2.1 102 (mIx v2)))) fun S3 =>
  grd (kI 105 v1 && (kO 100 6 && (kI 104 v1 && (kO 100 6 && true)))) <|
  some (((S3.1 104 (mIx v1)) + (S3.1 105 (mIx v1))), S3)
def fX6_putBack (v1 : Int32) (v2 : Int32) (v3 : Int32) (S : mT) : Option (mT) :=
  grd (kI 104 v1 && (kO 100 6 && true)) <|
  bnd (sI S 104 (mIx v1) v3) fun S1 =>
  grd (kI 102 v2 && (kO 100 6 && (kI 105 v1 && (kO 100 6 && true)))) <|
  grd (kI 105 v1 && true) <|
  bnd (sI S1 105 (mIx v1) ((S1.1 105 (mIx v1)) - (S1.1 102 (mIx v2)))) fun S2 =>
  some S2
def fX6_soonestFrom_93 (self : Int32 → Int32 → Int32 → Int32 → mT → Option (Int32 × mT)) (v5 : Int32) (S : mT) : Option (Int32 × mT) :=
  some (v5, S)
def fX6_soonestFrom_18 (self : Int32 → Int32 → Int32 → Int32 → mT → Option (Int32 × mT)) : Nat → Int32 → Int32 → Int32 → Int32 → Int32 → Int32 → mT → Option (Int32 × mT)
  | 0, _, _, _, _, _, _, _ => none
  | k + 1, v1, v2, v3, v4, v5, v6, S =>
    if v2 < v6 then
      fX6_soonestFrom_93 self v5 S
    else
      if v3 ≤ v6 then
        fX6_soonestFrom_93 self v5 S
      else
        grd (kI 104 v6 && (kO 100 6 && true)) <|
        bnd (S.1 104 (mIx v6)) fun x1 =>
        bndC (fX6_busyWith v6 v1 S) fun x3 S2 =>
        bnd (if v4 < x3 then x3 else v4) fun x4 =>
        bnd (if v2 < (v6 + (1 : Int32)) then (v6 + (1 : Int32)) else v2) fun x5 =>
        bndC (self (v1 + (1 : Int32)) x5 v3 x4 S2) fun x7 S6 =>
        bnd (if x7 < v5 then x7 else v5) fun x8 =>
        bndV (fX6_putBack v6 v1 x1 S6) fun S9 =>
        bnd (v6 + (1 : Int32)) fun x10 =>
        fX6_soonestFrom_18 self k v1 v2 v3 v4 x8 x10 S9
def fX6_soonestFrom_0 (self : Int32 → Int32 → Int32 → Int32 → mT → Option (Int32 × mT)) (v1 : Int32) (v2 : Int32) (v3 : Int32) (v4 : Int32) (S : mT) : Option (Int32 × mT) :=
  grd (kO 100 6 && true) <|
  if v1 < (S.1 100 8) then
    fX6_soonestFrom_18 self mK v1 v2 v3 v4 (1000000 : Int32) (0 : Int32) S
  else
    some (v4, S)
def fX6_soonestFrom : Nat → Int32 → Int32 → Int32 → Int32 → mT → Option (Int32 × mT)
  | 0, _, _, _, _, _ => none
  | d + 1, v1, v2, v3, v4, S => fX6_soonestFrom_0 (fX6_soonestFrom d) v1 v2 v3 v4 S
def fX6_firstNoon (v1 : Int32) (S : mT) : Option (Int32 × mT) :=
  bndC (fX6_soonestFrom 16 (0 : Int32) (0 : Int32) v1 (0 : Int32) S) fun x2 S1 =>
  some (x2, S1)
def fX11_noon_19 (b : Bool) (S : mT) : Option (Int32 × mT) :=
  some ((-1 : Int32), S)
def fX11_noon (b : Bool) (v1 : Int32) (S : mT) : Option (Int32 × mT) :=
  bndC (fX11_isWithin v1 (1 : Int32) (5 : Int32) S) fun x2 S1 =>
  if x2 = 0 then
    fX11_noon_19 b S1
  else
    grd (kO (shU b) 8 && (kO 0 11 && true)) <|
    if (S1.1 (shU b) 9) = 0 then
      fX11_noon_19 b S1
    else
      grd (kO 0 11 && (kO 0 11 && (kO 0 11 && true))) <|
      bndV (fX6_look (shU b) 35 S1) fun S3 =>
      grd (kO 0 11 && true) <|
      bndC (fX6_firstNoon v1 S3) fun x5 S4 =>
      some (x5, S4)
def fX11_odds_27 (b : Bool) (S : mT) : Option (Int32 × mT) :=
  some ((-1 : Int32), S)
def fX11_odds_90 (b : Bool) (v5 : Int32) (s0 : Int32) (S : mT) : Option (Int32 × mT) :=
  grd (decide (¬ v5 = 0) && true) <|
  some ((s0 / v5), S)
def fX11_odds (b : Bool) (v1 : Int32) (v2 : Int32) (v3 : Int32) (v4 : Int32) (S : mT) : Option (Int32 × mT) :=
  bndC (fX11_isHouse b v1 S) fun x2 S1 =>
  if x2 = 0 then
    fX11_odds_27 b S1
  else
    bndC (fX11_isWithin v2 (0 : Int32) (7 : Int32) S1) fun x4 S3 =>
    if x4 = 0 then
      fX11_odds_27 b S3
    else
      bndC (fX11_isWithin v3 (0 : Int32) (1 : Int32) S3) fun x6 S5 =>
      if x6 = 0 then
        fX11_odds_27 b S5
      else
        bndV (fX11_learn b v4 S5) fun S7 =>
        grd (kI (rowR 121 (mIx v1)) v2 && (kR 121 v1 && (kO 120 10 && (kO 0 11 && (kO 120 10 && (kO 0 11 && true)))))) <|
        bndC (fX11_commonDivisor (S7.1 120 8) (S7.1 (rowR 121 (mIx v1)) (mIx v2)) S7) fun x9 S8 =>
        if x9 = 0 then
          some ((-1 : Int32), S8)
        else
          if v3 = 0 then
            grd (kI (rowR 121 (mIx v1)) v2 && (kR 121 v1 && (kO 120 10 && (kO 0 11 && true)))) <|
            fX11_odds_90 b x9 (S8.1 (rowR 121 (mIx v1)) (mIx v2)) S8
          else
            grd (kO 120 10 && (kO 0 11 && true)) <|
            fX11_odds_90 b x9 (S8.1 120 8) S8
def fX11_range_17 (b : Bool) (S : mT) : Option (Int32 × mT) :=
  some ((-1 : Int32), S)
def fX11_range_47 (b : Bool) (s0 : Int32) (S : mT) : Option (Int32 × mT) :=
  some (s0, S)
def fX11_range (b : Bool) (v1 : Int32) (v2 : Int32) (v3 : Int32) (S : mT) : Option (Int32 × mT) :=
  bndC (fX11_isHouse b v1 S) fun x2 S1 =>
  if x2 = 0 then
    fX11_range_17 b S1
  else
    bndC (fX11_isWithin v2 (0 : Int32) (1 : Int32) S1) fun x4 S3 =>
    if x4 = 0 then
      fX11_range_17 b S3
    else
      bndV (fX11_learn b v3 S3) fun S5 =>
      if v2 = 0 then
        grd (kO 0 11 && true) <|
        bndC (fX10_fewestIn v1 S5) fun x7 S6 =>
        fX11_range_47 b x7 S6
      else
        grd (kO 0 11 && true) <|
        bndC (fX10_mostIn v1 S5) fun x9 S8 =>
        fX11_range_47 b x9 S8
def fX2_copyTo (a1 : Nat) (S : mT) : Option (mT) :=
  grd (kR 38 (((S.1 37 3) + (S.1 37 4)) - ((S.1 37 3) + (S.1 37 4)) / (41 : Int32) * (41 : Int32)) && (decide (¬ (41 : Int32) = 0) && (kO 37 2 && (kO 37 2 && (kO 37 2 && true))))) <|
  grd (kC (rowR 38 (mIx (((S.1 37 3) + (S.1 37 4)) - ((S.1 37 3) + (S.1 37 4)) / (41 : Int32) * (41 : Int32)))) a1 (0 : Int32) (0 : Int32) (17 : Int32) && true) <|
  bnd (sC S (rowR 38 (mIx (((S.1 37 3) + (S.1 37 4)) - ((S.1 37 3) + (S.1 37 4)) / (41 : Int32) * (41 : Int32)))) a1 (0 : Int32) (0 : Int32) (17 : Int32)) fun S1 =>
  some S1
def fX2_stepOn (a1 : Nat) (S : mT) : Option (Int32 × mT) :=
  grd (kO 37 2 && true) <|
  if 0 < (S.1 37 5) then
    grd (kO 37 2 && (kO 37 2 && true)) <|
    bnd (sI S 37 4 ((S.1 37 4) + (1 : Int32))) fun S1 =>
    grd (kO 37 2 && (kO 37 2 && true)) <|
    bnd (sI S1 37 5 ((S1.1 37 5) - (1 : Int32))) fun S2 =>
    bndV (fX2_copyTo a1 S2) fun S3 =>
    some ((1 : Int32), S3)
  else
    some ((0 : Int32), S)
def fX11_redo (S : mT) : Option (Int32 × mT) :=
  grd (kO 0 11 && (kO 0 11 && true)) <|
  bndC (fX2_stepOn 35 S) fun x2 S1 =>
  grd (mFit .boolean x2) (some (x2, S1))
def fX5_add (v1 : Int32) (v2 : Int32) (v3 : Int32) (v4 : Int32) (S : mT) : Option (Int32 × mT) :=
  grd (kO 114 5 && true) <|
  if (S.1 114 5) < (30 : Int32) then
    grd (kI 115 (S.1 114 5) && (kO 114 5 && (kO 114 5 && true))) <|
    bnd (sI S 115 (mIx (S.1 114 5)) v1) fun S1 =>
    grd (kI 116 (S1.1 114 5) && (kO 114 5 && (kO 114 5 && true))) <|
    bnd (sI S1 116 (mIx (S1.1 114 5)) v2) fun S2 =>
    grd (kI 117 (S2.1 114 5) && (kO 114 5 && (kO 114 5 && true))) <|
    bnd (sI S2 117 (mIx (S2.1 114 5)) v3) fun S3 =>
    grd (kI 118 (S3.1 114 5) && (kO 114 5 && (kO 114 5 && true))) <|
    bnd (sI S3 118 (mIx (S3.1 114 5)) v4) fun S4 =>
    grd (kI 119 (S4.1 114 5) && (kO 114 5 && (kO 114 5 && true))) <|
    bnd (sI S4 119 (mIx (S4.1 114 5)) (-1 : Int32)) fun S5 =>
    grd (kO 114 5 && (kO 114 5 && true)) <|
    bnd (sI S5 114 5 ((S5.1 114 5) + (1 : Int32))) fun S6 =>
    grd (kO 114 5 && true) <|
    some (((S6.1 114 5) - (1 : Int32)), S6)
  else
    some ((-1 : Int32), S)
def fX11_report_41 (b : Bool) (S : mT) : Option (Int32 × mT) :=
  some ((-1 : Int32), S)
def fX11_report (b : Bool) (v1 : Int32) (v2 : Int32) (v3 : Int32) (S : mT) : Option (Int32 × mT) :=
  grd (kO (shU b) 8 && (kO 0 11 && true)) <|
  bndC (fX11_isWithin v1 (1 : Int32) (((1 : Int32) <<< ((S.1 (shU b) 9) &&& 31)) - (1 : Int32)) S) fun x2 S1 =>
  if x2 = 0 then
    some ((-1 : Int32), S1)
  else
    bndC (fX11_isWithin v2 (0 : Int32) (35 : Int32) S1) fun x4 S3 =>
    if x4 = 0 then
      fX11_report_41 b S3
    else
      bndC (fX11_isWithin v3 v2 (35 : Int32) S3) fun x6 S5 =>
      if x6 = 0 then
        fX11_report_41 b S5
      else
        grd (kO 0 11 && (kO 0 11 && true)) <|
        bndC (fX5_add v1 v2 v3 (S5.1 0 14) S5) fun x8 S7 =>
        some (x8, S7)
def fX6_sendFrom_82 (self : Int32 → Int32 → Int32 → Int32 → mT → Option (Int32 × mT)) (rc16 : Int32 → Int32 → Int32 → Int32 → Int32 → Int32 → mT → Option (Int32 × mT)) (v1 : Int32) (v2 : Int32) (v3 : Int32) (v4 : Int32) (v5 : Int32) (v6 : Int32) (v7 : Int32) (S : mT) : Option (Int32 × mT) :=
  bndV (fX6_putBack v6 v1 v7 S) fun S8 =>
  bnd (v6 + (1 : Int32)) fun x9 =>
  rc16 v1 v2 v3 v4 v5 x9 S8
def fX6_sendFrom_97 (self : Int32 → Int32 → Int32 → Int32 → mT → Option (Int32 × mT)) (v5 : Int32) (S : mT) : Option (Int32 × mT) :=
  grd (mFit .boolean v5) (some (v5, S))
def fX6_sendFrom_16 (self : Int32 → Int32 → Int32 → Int32 → mT → Option (Int32 × mT)) : Nat → Int32 → Int32 → Int32 → Int32 → Int32 → Int32 → mT → Option (Int32 × mT)
  | 0, _, _, _, _, _, _, _ => none
  | k + 1, v1, v2, v3, v4, v5, v6, S =>
    if v2 < v6 then
      fX6_sendFrom_97 self v5 S
    else
      if v3 ≤ v6 then
        fX6_sendFrom_97 self v5 S
      else
        if v5 = 0 then
          grd (kI 104 v6 && (kO 100 6 && true)) <|
          bnd (S.1 104 (mIx v6)) fun x1 =>
          bndC (fX6_busyWith v6 v1 S) fun x3 S2 =>
          if v4 < x3 then
            fX6_sendFrom_82 self (fX6_sendFrom_16 self k) v1 v2 v3 v4 v5 v6 x1 S2
          else
            grd (kI 103 v1 && (kO 100 6 && true)) <|
            bnd (sI S2 103 (mIx v1) v6) fun S4 =>
            bnd (if v2 < (v6 + (1 : Int32)) then (v6 + (1 : Int32)) else v2) fun x5 =>
            bndC (self (v1 + (1 : Int32)) x5 v3 v4 S4) fun x7 S6 =>
            fX6_sendFrom_82 self (fX6_sendFrom_16 self k) v1 v2 v3 v4 x7 v6 x1 S6
        else
          fX6_sendFrom_97 self v5 S
def fX6_sendFrom_0 (self : Int32 → Int32 → Int32 → Int32 → mT → Option (Int32 × mT)) (v1 : Int32) (v2 : Int32) (v3 : Int32) (v4 : Int32) (S : mT) : Option (Int32 × mT) :=
  grd (kO 100 6 && true) <|
  if v1 < (S.1 100 8) then
    fX6_sendFrom_16 self mK v1 v2 v3 v4 (0 : Int32) (0 : Int32) S
  else
    some ((1 : Int32), S)
def fX6_sendFrom : Nat → Int32 → Int32 → Int32 → Int32 → mT → Option (Int32 × mT)
  | 0, _, _, _, _, _ => none
  | d + 1, v1, v2, v3, v4, S => fX6_sendFrom_0 (fX6_sendFrom d) v1 v2 v3 v4 S
def fX6_fewestBy_11 : Nat → Int32 → Int32 → mT → Option (Int32 × mT)
  | 0, _, _, _ => none
  | k + 1, v1, v2, S =>
    grd (kO 100 6 && true) <|
    if (S.1 100 8) < v2 then
      some ((-1 : Int32), S)
    else
      bndC (fX6_sendFrom 16 (0 : Int32) (0 : Int32) v2 v1 S) fun x2 S1 =>
      if x2 = 0 then
        bnd (v2 + (1 : Int32)) fun x3 =>
        fX6_fewestBy_11 k v1 x3 S1
      else
        some (v2, S1)
def fX6_fewestBy (v1 : Int32) (S : mT) : Option (Int32 × mT) :=
  grd (kO 100 6 && true) <|
  if (S.1 100 8) = 0 then
    some ((0 : Int32), S)
  else
    fX6_fewestBy_11 mK v1 (1 : Int32) S
def fX11_rounds_65 (b : Bool) (v2 : Int32) (S : mT) : Option (Int32 × mT) :=
  some (v2, S)
def fX11_rounds (b : Bool) (v1 : Int32) (S : mT) : Option (Int32 × mT) :=
  grd (kO 0 11 && true) <|
  bnd (sI S 0 13 (0 : Int32)) fun S1 =>
  bndC (fX11_isWithin v1 (0 : Int32) (999 : Int32) S1) fun x3 S2 =>
  if x3 = 0 then
    some ((-1 : Int32), S2)
  else
    grd (kO 0 11 && (kO 0 11 && (kO 0 11 && true))) <|
    bndV (fX6_look (shU b) 35 S2) fun S4 =>
    grd (kO 0 11 && true) <|
    bndC (fX6_fewestBy v1 S4) fun x6 S5 =>
    if x6 = (-1 : Int32) then
      fX11_rounds_65 b x6 S5
    else
      grd (kO (shU b) 8 && (kO 0 11 && (kO 100 6 && (kO 0 11 && true)))) <|
      bndV (fX11_lay 103 (S5.1 (shU b) 9) S5) fun S7 =>
      fX11_rounds_65 b x6 S7
def fX11_seats_27 (b : Bool) (S : mT) : Option (Int32 × mT) :=
  some ((-1 : Int32), S)
def fX11_seats (b : Bool) (v1 : Int32) (v2 : Int32) (v3 : Int32) (S : mT) : Option (Int32 × mT) :=
  bndC (fX11_isHouse b v1 S) fun x2 S1 =>
  if x2 = 0 then
    fX11_seats_27 b S1
  else
    bndC (fX11_isWithin v2 (1 : Int32) (20 : Int32) S1) fun x4 S3 =>
    if x4 = 0 then
      fX11_seats_27 b S3
    else
      bndC (fX11_isWithin v3 (0 : Int32) (1 : Int32) S3) fun x6 S5 =>
      if x6 = 0 then
        fX11_seats_27 b S5
      else
        grd (kO (shU b) 8 && (kO 0 11 && (kO 0 11 && (kO 0 11 && true)))) <|
        bndV (fX7_look 35 (S5.1 (shU b) 9) S5) fun S7 =>
        grd (kO 0 11 && true) <|
        bndV (fX7_share v2 v3 S7) fun S8 =>
        grd (kI 111 v1 && (kO 109 7 && (kO 0 11 && true))) <|
        some ((S8.1 111 (mIx v1)), S8)
def fX11_steal_32 (b : Bool) (S : mT) : Option (Int32 × mT) :=
  some ((-1 : Int32), S)
def fX11_steal (b : Bool) (v1 : Int32) (v2 : Int32) (S : mT) : Option (Int32 × mT) :=
  bndC (fX11_isHouse b v1 S) fun x2 S1 =>
  if x2 = 0 then
    fX11_steal_32 b S1
  else
    if v2 < (1 : Int32) then
      fX11_steal_32 b S1
    else
      if (99 : Int32) < v2 then
        fX11_steal_32 b S1
      else
        grd (kI 35 ((10 : Int32) + v1) && (kO 0 11 && true)) <|
        if v2 ≤ (S1.1 35 (mIx ((10 : Int32) + v1))) then
          grd (kI 35 ((10 : Int32) + v1) && (kI 35 ((10 : Int32) + v1) && (kO 0 11 && true))) <|
          bnd (sI S1 35 (mIx ((10 : Int32) + v1)) ((S1.1 35 (mIx ((10 : Int32) + v1))) - v2)) fun S3 =>
          grd (kO 0 11 && (kO 0 11 && true)) <|
          bndV (fX2_keep 35 S3) fun S4 =>
          grd (kI 35 ((10 : Int32) + v1) && (kO 0 11 && true)) <|
          some ((S4.1 35 (mIx ((10 : Int32) + v1))), S4)
        else
          fX11_steal_32 b S1
def fX7_isChanged_2 : Nat → Int32 → mT → Option (Int32 × mT)
  | 0, _, _ => none
  | k + 1, v1, S =>
    grd (kO 109 7 && true) <|
    if (S.1 109 4) ≤ v1 then
      some ((0 : Int32), S)
    else
      grd (kI 113 v1 && (kO 109 7 && (kI 111 v1 && (kO 109 7 && true)))) <|
      if (S.1 111 (mIx v1)) = (S.1 113 (mIx v1)) then
        bnd (v1 + (1 : Int32)) fun x1 =>
        fX7_isChanged_2 k x1 S
      else
        some ((1 : Int32), S)
def fX7_isChanged (S : mT) : Option (Int32 × mT) :=
  fX7_isChanged_2 mK (0 : Int32) S
def fX7_changedByOne_79 (rc28 : Int32 → Int32 → Int32 → Int32 → mT → Option (Int32 × mT)) (v1 : Int32) (v2 : Int32) (v3 : Int32) (v4 : Int32) (S : mT) : Option (Int32 × mT) :=
  bnd (v4 + (1 : Int32)) fun x9 =>
  rc28 v1 v2 v3 x9 S
def fX7_changedByOne_28 : Nat → Int32 → Int32 → Int32 → Int32 → mT → Option (Int32 × mT)
  | 0, _, _, _, _, _ => none
  | k + 1, v1, v2, v3, v4, S =>
    grd (kO 109 7 && true) <|
    if (S.1 109 4) ≤ v4 then
      some (v3, S)
    else
      grd (kI 110 v4 && (kI 110 v4 && (kO 109 7 && true))) <|
      bnd (sI S 110 (mIx v4) ((S.1 110 (mIx v4)) + (1 : Int32))) fun S3 =>
      bndV (fX7_share v1 v2 S3) fun S4 =>
      grd (kI 110 v4 && (kI 110 v4 && (kO 109 7 && true))) <|
      bnd (sI S4 110 (mIx v4) ((S4.1 110 (mIx v4)) - (1 : Int32))) fun S5 =>
      bndC (fX7_isChanged S5) fun x7 S6 =>
      if x7 = 0 then
        fX7_changedByOne_79 (fX7_changedByOne_28 k) v1 v2 v3 v4 S6
      else
        bnd (v3 ||| ((1 : Int32) <<< (v4 &&& 31))) fun x8 =>
        fX7_changedByOne_79 (fX7_changedByOne_28 k) v1 v2 x8 v4 S6
def fX7_changedByOne (v1 : Int32) (v2 : Int32) (S : mT) : Option (Int32 × mT) :=
  bndV (fX7_share v1 v2 S) fun S1 =>
  grd (kC 111 113 (0 : Int32) (0 : Int32) (S1.1 109 4) && (kO 109 7 && (kO 109 7 && (kO 109 7 && true)))) <|
  bnd (sC S1 111 113 (0 : Int32) (0 : Int32) (S1.1 109 4)) fun S2 =>
  fX7_changedByOne_28 mK v1 v2 (0 : Int32) (0 : Int32) S2
def fX11_stone_19 (b : Bool) (S : mT) : Option (Int32 × mT) :=
  some ((-1 : Int32), S)
def fX11_stone (b : Bool) (v1 : Int32) (v2 : Int32) (S : mT) : Option (Int32 × mT) :=
  bndC (fX11_isWithin v1 (1 : Int32) (20 : Int32) S) fun x2 S1 =>
  if x2 = 0 then
    fX11_stone_19 b S1
  else
    bndC (fX11_isWithin v2 (0 : Int32) (1 : Int32) S1) fun x4 S3 =>
    if x4 = 0 then
      fX11_stone_19 b S3
    else
      grd (kO (shU b) 8 && (kO 0 11 && (kO 0 11 && (kO 0 11 && true)))) <|
      bndV (fX7_look 35 (S3.1 (shU b) 9) S3) fun S5 =>
      grd (kO 0 11 && true) <|
      bndC (fX7_changedByOne v1 v2 S5) fun x7 S6 =>
      some (x7, S6)
def fX11_summer (b : Bool) (S : mT) : Option (Int32 × mT) :=
  grd (kI 35 (15 : Int32) && (kO 0 11 && true)) <|
  if (S.1 35 (mIx (15 : Int32))) < (999 : Int32) then
    grd (kO 0 11 && (kO 0 11 && true)) <|
    bndV (fX8_passSummer (shU b) 35 S) fun S1 =>
    grd (kO 0 11 && (kO 0 11 && true)) <|
    bndV (fX2_keep 35 S1) fun S2 =>
    grd (kO 0 11 && true) <|
    bndC (fX11_allBowls b 35 S2) fun x4 S3 =>
    some (x4, S3)
  else
    some ((-1 : Int32), S)
def fX11_tells_48 (b : Bool) (s0 : Int32) (S : mT) : Option (Int32 × mT) :=
  some (s0, S)
def fX11_tells (b : Bool) (v1 : Int32) (v2 : Int32) (S : mT) : Option (Int32 × mT) :=
  bndC (fX11_isWithin v1 (0 : Int32) (1 : Int32) S) fun x2 S1 =>
  if x2 = 0 then
    some ((-1 : Int32), S1)
  else
    bndV (fX11_learn b v2 S1) fun S3 =>
    grd (kO 120 10 && (kO 0 11 && true)) <|
    if (S3.1 120 8) = 0 then
      some ((-1 : Int32), S3)
    else
      grd (kO 0 11 && true) <|
      bndC (fX10_tellingSet S3) fun x5 S4 =>
      if v1 = 0 then
        bndC (fJ6_bitCount_0f7a4 x5 S4) fun x7 S6 =>
        fX11_tells_48 b x7 S6
      else
        fX11_tells_48 b x5 S4
def fX11_truths (b : Bool) (v1 : Int32) (S : mT) : Option (Int32 × mT) :=
  bndV (fX11_learn b v1 S) fun S1 =>
  grd (kO 120 10 && (kO 0 11 && true)) <|
  some ((S1.1 120 8), S1)
def fX2_stepBack (a1 : Nat) (S : mT) : Option (Int32 × mT) :=
  grd (kO 37 2 && true) <|
  if 0 < (S.1 37 4) then
    grd (kO 37 2 && (kO 37 2 && true)) <|
    bnd (sI S 37 4 ((S.1 37 4) - (1 : Int32))) fun S1 =>
    grd (kO 37 2 && (kO 37 2 && true)) <|
    bnd (sI S1 37 5 ((S1.1 37 5) + (1 : Int32))) fun S2 =>
    bndV (fX2_copyTo a1 S2) fun S3 =>
    some ((1 : Int32), S3)
  else
    some ((0 : Int32), S)
def fX11_undo (S : mT) : Option (Int32 × mT) :=
  grd (kO 0 11 && (kO 0 11 && true)) <|
  bndC (fX2_stepBack 35 S) fun x2 S1 =>
  grd (mFit .boolean x2) (some (x2, S1))
def fX5_takeBack_22 (S : mT) : Option (Int32 × mT) :=
  some ((0 : Int32), S)
def fX5_takeBack (v1 : Int32) (v2 : Int32) (S : mT) : Option (Int32 × mT) :=
  if v1 < 0 then
    fX5_takeBack_22 S
  else
    grd (kO 114 5 && true) <|
    if (S.1 114 5) ≤ v1 then
      fX5_takeBack_22 S
    else
      grd (kI 119 v1 && (kO 114 5 && true)) <|
      if (S.1 119 (mIx v1)) = (-1 : Int32) then
        grd (kI 119 v1 && (kO 114 5 && true)) <|
        bnd (sI S 119 (mIx v1) v2) fun S1 =>
        some ((1 : Int32), S1)
      else
        fX5_takeBack_22 S
def fX11_untell (v1 : Int32) (S : mT) : Option (Int32 × mT) :=
  grd (kO 0 11 && (kO 0 11 && true)) <|
  bndC (fX5_takeBack v1 (S.1 0 14) S) fun x2 S1 =>
  grd (mFit .boolean x2) (some (x2, S1))
def fX11_will_18 (b : Bool) (S : mT) : Option (Int32 × mT) :=
  some ((-1 : Int32), S)
def fX11_will (b : Bool) (v1 : Int32) (v2 : Int32) (S : mT) : Option (Int32 × mT) :=
  bndC (fX11_isHouse b v1 S) fun x2 S1 =>
  if x2 = 0 then
    fX11_will_18 b S1
  else
    bndC (fX11_isWithin v2 (0 : Int32) (60 : Int32) S1) fun x4 S3 =>
    if x4 = 0 then
      fX11_will_18 b S3
    else
      bndV (fX11_foresee b v2 S3) fun S5 =>
      grd (kI 36 ((0 : Int32) + v1) && (kO 0 11 && true)) <|
      some ((S5.1 36 (mIx ((0 : Int32) + v1))), S5)
def fX12_about (v1 : Int32) (S : mT) : Option (Int32 × mT) :=
  if v1 = (0 : Int32) then
    grd (kO 187 12 && true) <|
    some ((S.1 187 37), S)
  else
    if v1 = (1 : Int32) then
      grd (kI 208 (15 : Int32) && (kO 187 12 && true)) <|
      some ((S.1 208 (mIx (15 : Int32))), S)
    else
      if v1 = (2 : Int32) then
        grd (kI 208 (16 : Int32) && (kO 187 12 && true)) <|
        some ((S.1 208 (mIx (16 : Int32))), S)
      else
        if v1 = (3 : Int32) then
          grd (kO 187 12 && true) <|
          some ((S.1 187 46), S)
        else
          if v1 = (4 : Int32) then
            grd (kO 187 12 && true) <|
            some ((S.1 187 47), S)
          else
            if v1 = (5 : Int32) then
              grd (kO 187 12 && true) <|
              some ((S.1 187 66), S)
            else
              if v1 = (6 : Int32) then
                grd (kO 187 12 && true) <|
                some ((S.1 187 67), S)
              else
                if v1 = (7 : Int32) then
                  grd (kO 187 12 && true) <|
                  some ((S.1 187 1), S)
                else
                  if v1 = (8 : Int32) then
                    grd (kO 187 12 && true) <|
                    some ((S.1 187 24), S)
                  else
                    if v1 = (9 : Int32) then
                      grd (kO 187 12 && true) <|
                      some ((S.1 187 51), S)
                    else
                      some ((-1 : Int32), S)
def fX12_act_51 : Nat → Int32 → mT → Option (mT)
  | 0, _, _ => none
  | k + 1, v1, S =>
    if (17 : Int32) ≤ v1 then
      grd (kO 187 12 && (kO 187 12 && true)) <|
      bnd (sI S 187 46 ((S.1 187 46) + (1 : Int32))) fun S4 =>
      grd (kO 187 12 && true) <|
      bnd (sI S4 187 47 (0 : Int32)) fun S5 =>
      some S5
    else
      grd (kO 187 12 && (kO 187 12 && (kO 187 12 && true))) <|
      grd (kI 212 (((18 : Int32) * (S.1 187 46)) + v1) && (kI 208 v1 && true)) <|
      bnd (sI S 212 (mIx (((18 : Int32) * (S.1 187 46)) + v1)) (S.1 208 (mIx v1))) fun S6 =>
      bnd (v1 + (1 : Int32)) fun x7 =>
      fX12_act_51 k x7 S6
def fX12_act_49 (S : mT) : Option (mT) :=
  fX12_act_51 mK (0 : Int32) S
def fX12_act_11 : Nat → Int32 → mT → Option (mT)
  | 0, _, _ => none
  | k + 1, v1, S =>
    if (702 : Int32) ≤ v1 then
      grd (kO 187 12 && (kO 187 12 && true)) <|
      bnd (sI S 187 46 ((S.1 187 46) - (1 : Int32))) fun S1 =>
      fX12_act_49 S1
    else
      grd (kI 212 v1 && (kI 212 ((18 : Int32) + v1) && (kO 187 12 && (kO 187 12 && true)))) <|
      bnd (sI S 212 (mIx v1) (S.1 212 (mIx ((18 : Int32) + v1)))) fun S2 =>
      bnd (v1 + (1 : Int32)) fun x3 =>
      fX12_act_11 k x3 S2
def fX12_act (S : mT) : Option (mT) :=
  grd (kO 187 12 && true) <|
  if (S.1 187 46) = (40 : Int32) then
    fX12_act_11 mK (0 : Int32) S
  else
    fX12_act_49 S
def fX12_add (v1 : Int32) (v2 : Int32) (S : mT) : Option (mT) :=
  grd (kO 187 12 && (kO 187 12 && (kO 187 12 && (kO 187 12 && true)))) <|
  grd (kI 190 (((320 : Int32) * (S.1 187 21)) + (S.1 192 (mIx (S.1 187 21)))) && (kI 192 (S.1 187 21) && true)) <|
  bnd (sI S 190 (mIx (((320 : Int32) * (S.1 187 21)) + (S.1 192 (mIx (S.1 187 21))))) v1) fun S1 =>
  grd (kO 187 12 && (kO 187 12 && (kO 187 12 && (kO 187 12 && true)))) <|
  grd (kI 191 (((320 : Int32) * (S1.1 187 21)) + (S1.1 192 (mIx (S1.1 187 21)))) && (kI 192 (S1.1 187 21) && true)) <|
  bnd (sI S1 191 (mIx (((320 : Int32) * (S1.1 187 21)) + (S1.1 192 (mIx (S1.1 187 21))))) v2) fun S2 =>
  grd (kI 192 (S2.1 187 21) && (kI 192 (S2.1 187 21) && (kO 187 12 && (kO 187 12 && true)))) <|
  bnd (sI S2 192 (mIx (S2.1 187 21)) ((S2.1 192 (mIx (S2.1 187 21))) + (1 : Int32))) fun S3 =>
  some S3
def fX12_allBowls_4 : Nat → Int32 → Int32 → mT → Option (Int32 × mT)
  | 0, _, _, _ => none
  | k + 1, v1, v2, S =>
    grd (kO 187 12 && true) <|
    if (S.1 187 37) ≤ v2 then
      some (v1, S)
    else
      grd (kI 211 v2 && (kO 187 12 && true)) <|
      bnd (v1 + (S.1 211 (mIx v2))) fun x1 =>
      bnd (v2 + (1 : Int32)) fun x2 =>
      fX12_allBowls_4 k x1 x2 S
def fX12_allBowls (S : mT) : Option (Int32 × mT) :=
  fX12_allBowls_4 mK (0 : Int32) (0 : Int32) S
def fX12_askOf (v1 : Int32) (v2 : Int32) (v3 : Int32) (v4 : Int32) (v5 : Int32) (v6 : Int32) (S : mT) : Option (mT) :=
  grd (kI 200 (0 : Int32) && (kO 187 12 && true)) <|
  bnd (sI S 200 (mIx (0 : Int32)) v1) fun S1 =>
  grd (kI 200 (1 : Int32) && (kO 187 12 && true)) <|
  bnd (sI S1 200 (mIx (1 : Int32)) v2) fun S2 =>
  grd (kI 200 (2 : Int32) && (kO 187 12 && true)) <|
  bnd (sI S2 200 (mIx (2 : Int32)) v3) fun S3 =>
  grd (kI 200 (3 : Int32) && (kO 187 12 && true)) <|
  bnd (sI S3 200 (mIx (3 : Int32)) v4) fun S4 =>
  grd (kI 200 (4 : Int32) && (kO 187 12 && true)) <|
  bnd (sI S4 200 (mIx (4 : Int32)) v5) fun S5 =>
  grd (kI 200 (5 : Int32) && (kO 187 12 && true)) <|
  bnd (sI S5 200 (mIx (5 : Int32)) v6) fun S6 =>
  some S6
def fX12_asked_91 (s0 : Int32) (S : mT) : Option (Int32 × mT) :=
  some (s0, S)
def fX12_asked (S : mT) : Option (Int32 × mT) :=
  grd (kO 187 12 && true) <|
  if (S.1 187 6) = (1 : Int32) then
    grd (kO 187 12 && true) <|
    if (lg_cmp (S.2 187 9) (448377480307 : Int64)) = 0 then
      some ((0 : Int32), S)
    else
      grd (kO 187 12 && true) <|
      if (lg_cmp (S.2 187 9) (114801865155950 : Int64)) = 0 then
        some ((1 : Int32), S)
      else
        grd (kO 187 12 && true) <|
        if (lg_cmp (S.2 187 9) (6971757 : Int64)) = 0 then
          some ((2 : Int32), S)
        else
          grd (kO 187 12 && true) <|
          if (lg_cmp (S.2 187 9) (448310438260 : Int64)) = 0 then
            some ((3 : Int32), S)
          else
            grd (kO 187 12 && true) <|
            if (lg_cmp (S.2 187 9) (126943922906483 : Int64)) = 0 then
              some ((4 : Int32), S)
            else
              grd (kO 187 12 && true) <|
              if (lg_cmp (S.2 187 9) (2036687218 : Int64)) = 0 then
                fX12_asked_91 (5 : Int32) S
              else
                fX12_asked_91 (-1 : Int32) S
  else
    some ((-1 : Int32), S)
def fX12_isBox_14 (s0 : Int32) (S : mT) : Option (Int32 × mT) :=
  grd (mFit .boolean s0) (some (s0, S))
def fX12_isBox_13 (S : mT) : Option (Int32 × mT) :=
  fX12_isBox_14 (0 : Int32) S
def fX12_isBox (v0 : Int32) (S : mT) : Option (Int32 × mT) :=
  if v0 < 0 then
    fX12_isBox_13 S
  else
    if (3 : Int32) ≤ v0 then
      fX12_isBox_13 S
    else
      fX12_isBox_14 (1 : Int32) S
def fX12_back_16 (S : mT) : Option (Int32 × mT) :=
  some ((-1 : Int32), S)
def fX12_back_20 : Nat → Int32 → Int32 → mT → Option (Int32 × mT)
  | 0, _, _, _ => none
  | k + 1, v1, v2, S =>
    if (17 : Int32) ≤ v2 then
      grd (kO 187 12 && true) <|
      bnd (sI S 187 46 (0 : Int32)) fun S3 =>
      grd (kO 187 12 && true) <|
      bnd (sI S3 187 47 (0 : Int32)) fun S4 =>
      grd (kI 208 (15 : Int32) && (kO 187 12 && true)) <|
      some ((S4.1 208 (mIx (15 : Int32))), S4)
    else
      grd (kO 187 12 && (kO 187 12 && true)) <|
      grd (kI 208 v2 && (kI 232 (((18 : Int32) * v1) + v2) && true)) <|
      bnd (sI S 208 (mIx v2) (S.1 232 (mIx (((18 : Int32) * v1) + v2)))) fun S5 =>
      bnd (v2 + (1 : Int32)) fun x6 =>
      fX12_back_20 k v1 x6 S5
def fX12_back (v1 : Int32) (S : mT) : Option (Int32 × mT) :=
  bndC (fX12_isBox v1 S) fun x2 S1 =>
  if x2 = 0 then
    fX12_back_16 S1
  else
    grd (kB 231 v1 && (kO 187 12 && true)) <|
    if (S1.1 231 (mIx v1)) = 0 then
      fX12_back_16 S1
    else
      fX12_back_20 mK v1 (0 : Int32) S1
def fX12_bound_19 (s0 : Int32) (S : mT) : Option (Int32 × mT) :=
  some (s0, S)
def fX12_bound (v0 : Int32) (v1 : Int32) (v2 : Int32) (S : mT) : Option (Int32 × mT) :=
  if v1 ≤ v0 then
    if v0 ≤ v2 then
      fX12_bound_19 v0 S
    else
      fX12_bound_19 v2 S
  else
    fX12_bound_19 v1 S
def fX12_notMoreHidden_35 (s0 : Int32) (s1 : Int32) (S : mT) : Option (mT) :=
  grd (kI 210 s1 && true) <|
  bnd (sI S 210 (mIx s1) s0) fun S1 =>
  some S1
def fX12_notMoreHidden (v1 : Int32) (S : mT) : Option (mT) :=
  grd (kO 187 12 && (kI 210 v1 && (kO 187 12 && (kO 187 12 && true)))) <|
  grd (kI 209 v1 && true) <|
  if (S.1 210 (mIx v1)) ≤ (S.1 209 (mIx v1)) then
    grd (kI 210 v1 && (kO 187 12 && true)) <|
    fX12_notMoreHidden_35 (S.1 210 (mIx v1)) v1 S
  else
    grd (kI 209 v1 && (kO 187 12 && true)) <|
    fX12_notMoreHidden_35 (S.1 209 (mIx v1)) v1 S
def fX12_truth_9 (s0 : Int32) (S : mT) : Option (Int32 × mT) :=
  some (s0, S)
def fX12_truth (v0 : Int32) (S : mT) : Option (Int32 × mT) :=
  if v0 = 0 then
    fX12_truth_9 (0 : Int32) S
  else
    fX12_truth_9 (1 : Int32) S
def fX12_done_143 (s0 : Int32) (S : mT) : Option (Int32 × mT) :=
  some (s0, S)
def fX12_done_155 (s0 : Int32) (S : mT) : Option (Int32 × mT) :=
  some (s0, S)
def fX12_done_166 (s0 : Int32) (S : mT) : Option (Int32 × mT) :=
  bndC (fX12_truth s0 S) fun x8 S7 =>
  some (x8, S7)
def fX12_done_180 (s0 : Int32) (S : mT) : Option (Int32 × mT) :=
  bndC (fX12_truth s0 S) fun x4 S3 =>
  some (x4, S3)
def fX12_done_194 (s0 : Int32) (S : mT) : Option (Int32 × mT) :=
  bndC (fX12_truth s0 S) fun x6 S5 =>
  some (x6, S5)
def fX12_done_211 (s0 : Int32) (S : mT) : Option (Int32 × mT) :=
  bndC (fX12_truth s0 S) fun x10 S9 =>
  some (x10, S9)
def fX12_done_210 (S : mT) : Option (Int32 × mT) :=
  fX12_done_211 (0 : Int32) S
def fX12_done_228 (s0 : Int32) (S : mT) : Option (Int32 × mT) :=
  bndC (fX12_truth s0 S) fun x2 S1 =>
  some (x2, S1)
def fX12_done_223 (S : mT) : Option (Int32 × mT) :=
  fX12_done_228 (1 : Int32) S
def fX12_done (v0 : Int32) (v1 : Int32) (v2 : Int32) (S : mT) : Option (Int32 × mT) :=
  if v0 = (37 : Int32) then
    if v2 = 0 then
      fX12_done_155 (0 : Int32) S
    else
      grd (decide (¬ v2 = 0) && true) <|
      fX12_done_155 (v1 - v1 / v2 * v2) S
  else
    if v0 = (38 : Int32) then
      if v1 = 0 then
        fX12_done_210 S
      else
        if v2 = 0 then
          fX12_done_210 S
        else
          fX12_done_211 (1 : Int32) S
    else
      if v0 = (39 : Int32) then
        if v1 = 0 then
          if v2 = 0 then
            fX12_done_228 (0 : Int32) S
          else
            fX12_done_223 S
        else
          fX12_done_223 S
      else
        if v0 = (40 : Int32) then
          if v1 = 0 then
            if v2 = 0 then
              fX12_done_228 (0 : Int32) S
            else
              fX12_done_223 S
          else
            fX12_done_223 S
        else
          if v0 = (41 : Int32) then
            if v1 = 0 then
              if v2 = 0 then
                fX12_done_228 (0 : Int32) S
              else
                fX12_done_223 S
            else
              fX12_done_223 S
          else
            if v0 = (42 : Int32) then
              some ((v1 * v2), S)
            else
              if v0 = (43 : Int32) then
                some ((v1 + v2), S)
              else
                if v0 = (44 : Int32) then
                  if v1 = 0 then
                    if v2 = 0 then
                      fX12_done_228 (0 : Int32) S
                    else
                      fX12_done_223 S
                  else
                    fX12_done_223 S
                else
                  if v0 = (45 : Int32) then
                    some ((v1 - v2), S)
                  else
                    if v0 = (46 : Int32) then
                      if v1 = 0 then
                        if v2 = 0 then
                          fX12_done_228 (0 : Int32) S
                        else
                          fX12_done_223 S
                      else
                        fX12_done_223 S
                    else
                      if v0 = (47 : Int32) then
                        if v2 = 0 then
                          fX12_done_143 (0 : Int32) S
                        else
                          grd (decide (¬ v2 = 0) && true) <|
                          fX12_done_143 (v1 / v2) S
                      else
                        if v0 = (48 : Int32) then
                          if v1 = 0 then
                            if v2 = 0 then
                              fX12_done_228 (0 : Int32) S
                            else
                              fX12_done_223 S
                          else
                            fX12_done_223 S
                        else
                          if v0 = (49 : Int32) then
                            if v1 = 0 then
                              if v2 = 0 then
                                fX12_done_228 (0 : Int32) S
                              else
                                fX12_done_223 S
                            else
                              fX12_done_223 S
                          else
                            if v0 = (50 : Int32) then
                              if v1 = 0 then
                                if v2 = 0 then
                                  fX12_done_228 (0 : Int32) S
                                else
                                  fX12_done_223 S
                              else
                                fX12_done_223 S
                            else
                              if v0 = (51 : Int32) then
                                if v1 = 0 then
                                  if v2 = 0 then
                                    fX12_done_228 (0 : Int32) S
                                  else
                                    fX12_done_223 S
                                else
                                  fX12_done_223 S
                              else
                                if v0 = (52 : Int32) then
                                  if v1 = 0 then
                                    if v2 = 0 then
                                      fX12_done_228 (0 : Int32) S
                                    else
                                      fX12_done_223 S
                                  else
                                    fX12_done_223 S
                                else
                                  if v0 = (53 : Int32) then
                                    if v1 = 0 then
                                      if v2 = 0 then
                                        fX12_done_228 (0 : Int32) S
                                      else
                                        fX12_done_223 S
                                    else
                                      fX12_done_223 S
                                  else
                                    if v0 = (54 : Int32) then
                                      if v1 = 0 then
                                        if v2 = 0 then
                                          fX12_done_228 (0 : Int32) S
                                        else
                                          fX12_done_223 S
                                      else
                                        fX12_done_223 S
                                    else
                                      if v0 = (55 : Int32) then
                                        if v1 = 0 then
                                          if v2 = 0 then
                                            fX12_done_228 (0 : Int32) S
                                          else
                                            fX12_done_223 S
                                        else
                                          fX12_done_223 S
                                      else
                                        if v0 = (56 : Int32) then
                                          if v1 = 0 then
                                            if v2 = 0 then
                                              fX12_done_228 (0 : Int32) S
                                            else
                                              fX12_done_223 S
                                          else
                                            fX12_done_223 S
                                        else
                                          if v0 = (57 : Int32) then
                                            if v1 = 0 then
                                              if v2 = 0 then
                                                fX12_done_228 (0 : Int32) S
                                              else
                                                fX12_done_223 S
                                            else
                                              fX12_done_223 S
                                          else
                                            if v0 = (58 : Int32) then
                                              if v1 = 0 then
                                                if v2 = 0 then
                                                  fX12_done_228 (0 : Int32) S
                                                else
                                                  fX12_done_223 S
                                              else
                                                fX12_done_223 S
                                            else
                                              if v0 = (59 : Int32) then
                                                if v1 = 0 then
                                                  if v2 = 0 then
                                                    fX12_done_228 (0 : Int32) S
                                                  else
                                                    fX12_done_223 S
                                                else
                                                  fX12_done_223 S
                                              else
                                                if v0 = (60 : Int32) then
                                                  if v2 ≤ v1 then
                                                    fX12_done_166 (0 : Int32) S
                                                  else
                                                    fX12_done_166 (1 : Int32) S
                                                else
                                                  if v0 = (61 : Int32) then
                                                    if v1 = v2 then
                                                      fX12_done_194 (1 : Int32) S
                                                    else
                                                      fX12_done_194 (0 : Int32) S
                                                  else
                                                    if v0 = (62 : Int32) then
                                                      if v1 ≤ v2 then
                                                        fX12_done_180 (0 : Int32) S
                                                      else
                                                        fX12_done_180 (1 : Int32) S
                                                    else
                                                      if v1 = 0 then
                                                        if v2 = 0 then
                                                          fX12_done_228 (0 : Int32) S
                                                        else
                                                          fX12_done_223 S
                                                      else
                                                        fX12_done_223 S
def fX12_worked_158 (rc8 : Int32 → Int32 → Int32 → mT → Option (Int32 × mT)) (v1 : Int32) (v2 : Int32) (v3 : Int32) (S : mT) : Option (Int32 × mT) :=
  bnd (v3 + (1 : Int32)) fun x9 =>
  rc8 v1 v2 x9 S
def fX12_worked_77 (rc8 : Int32 → Int32 → Int32 → mT → Option (Int32 × mT)) (v1 : Int32) (v2 : Int32) (v3 : Int32) (s0 : Int32) (s1 : Int32) (S : mT) : Option (Int32 × mT) :=
  grd (kI 197 s1 && true) <|
  bnd (sI S 197 (mIx s1) s0) fun S10 =>
  bnd (v2 + (1 : Int32)) fun x11 =>
  fX12_worked_158 rc8 v1 x11 v3 S10
def fX12_worked_43 (rc8 : Int32 → Int32 → Int32 → mT → Option (Int32 × mT)) (v1 : Int32) (v2 : Int32) (v3 : Int32) (S : mT) : Option (Int32 × mT) :=
  grd (kI 193 v3 && (kO 187 12 && (kO 187 12 && true))) <|
  if (S.1 193 (mIx v3)) = 0 then
    grd (kI 194 v3 && (kO 187 12 && true)) <|
    fX12_worked_77 rc8 v1 v2 v3 (S.1 194 (mIx v3)) v2 S
  else
    grd (kI 200 (S.1 194 (mIx v3)) && (kI 194 v3 && (kO 187 12 && (kO 187 12 && true)))) <|
    fX12_worked_77 rc8 v1 v2 v3 (S.1 200 (mIx (S.1 194 (mIx v3)))) v2 S
def fX12_worked_117 (rc8 : Int32 → Int32 → Int32 → mT → Option (Int32 × mT)) (v1 : Int32) (v2 : Int32) (v3 : Int32) (s0 : Int32) (s1 : Int32) (S : mT) : Option (Int32 × mT) :=
  bndC (fX12_truth s0 S) fun x7 S6 =>
  grd (kI 197 s1 && true) <|
  bnd (sI S6 197 (mIx s1) x7) fun S8 =>
  fX12_worked_158 rc8 v1 v2 v3 S8
def fX12_worked_8 : Nat → Int32 → Int32 → Int32 → mT → Option (Int32 × mT)
  | 0, _, _, _, _ => none
  | k + 1, v1, v2, v3, S =>
    grd (kI 195 v1 && (kO 187 12 && true)) <|
    if (((320 : Int32) * v1) + (S.1 195 (mIx v1))) ≤ v3 then
      grd (kI 197 (0 : Int32) && (kO 187 12 && true)) <|
      some ((S.1 197 (mIx (0 : Int32))), S)
    else
      grd (kI 193 v3 && (kO 187 12 && true)) <|
      if (S.1 193 (mIx v3)) = 0 then
        fX12_worked_43 (fX12_worked_8 k) v1 v2 v3 S
      else
        grd (kI 193 v3 && (kO 187 12 && true)) <|
        if (S.1 193 (mIx v3)) = (1 : Int32) then
          fX12_worked_43 (fX12_worked_8 k) v1 v2 v3 S
        else
          grd (kI 193 v3 && (kO 187 12 && true)) <|
          if (S.1 193 (mIx v3)) = (2 : Int32) then
            grd (kO 187 12 && (kO 187 12 && true)) <|
            grd (kI 197 (v2 - (1 : Int32)) && true) <|
            if (S.1 197 (mIx (v2 - (1 : Int32)))) = 0 then
              fX12_worked_117 (fX12_worked_8 k) v1 v2 v3 (1 : Int32) (v2 - (1 : Int32)) S
            else
              fX12_worked_117 (fX12_worked_8 k) v1 v2 v3 (0 : Int32) (v2 - (1 : Int32)) S
          else
            bnd (v2 + (-1 : Int32)) fun x2 =>
            grd (kI 194 v3 && (kO 187 12 && (kO 187 12 && true))) <|
            grd (kI 197 x2 && (kO 187 12 && (kI 197 (x2 - (1 : Int32)) && (kO 187 12 && true)))) <|
            bndC (fX12_done (S.1 194 (mIx v3)) (S.1 197 (mIx (x2 - (1 : Int32)))) (S.1 197 (mIx x2)) S) fun x4 S3 =>
            grd (kI 197 (x2 - (1 : Int32)) && true) <|
            bnd (sI S3 197 (mIx (x2 - (1 : Int32))) x4) fun S5 =>
            fX12_worked_158 (fX12_worked_8 k) v1 x2 v3 S5
def fX12_worked (v1 : Int32) (S : mT) : Option (Int32 × mT) :=
  bnd ((320 : Int32) * v1) fun x1 =>
  fX12_worked_8 mK v1 (0 : Int32) x1 S
def fX12_stonesOf_70 (s0 : Int32) (S : mT) : Option (Int32 × mT) :=
  bndC (fX12_bound s0 (0 : Int32) (99 : Int32) S) fun x5 S4 =>
  some (x5, S4)
def fX12_stonesOf (v1 : Int32) (S : mT) : Option (Int32 × mT) :=
  grd (kI 210 v1 && (kO 187 12 && (kI 209 v1 && (kO 187 12 && true)))) <|
  grd (kO 187 12 && (kI 207 v1 && (kO 187 12 && (kI 206 v1 && (kO 187 12 && true))))) <|
  bndV (fX12_askOf (S.1 209 (mIx v1)) (S.1 210 (mIx v1)) (S.1 206 (mIx v1)) (S.1 207 (mIx v1)) (0 : Int32) (S.1 187 43) S) fun S1 =>
  grd (kB 199 (0 : Int32) && (kO 187 12 && true)) <|
  if (S1.1 199 (mIx (0 : Int32))) = 0 then
    grd (kI 210 v1 && (kO 187 12 && (kI 209 v1 && (kO 187 12 && true)))) <|
    grd (kI 207 v1 && (kO 187 12 && true)) <|
    fX12_stonesOf_70 (((S1.1 209 (mIx v1)) - (S1.1 210 (mIx v1))) + (S1.1 207 (mIx v1))) S1
  else
    bndC (fX12_worked (0 : Int32) S1) fun x3 S2 =>
    fX12_stonesOf_70 x3 S2
def fX12_goSummer_200 (S : mT) : Option (mT) :=
  grd (kO 187 12 && (kO 187 12 && true)) <|
  bnd (sI S 187 43 ((S.1 187 43) + (1 : Int32))) fun S19 =>
  some S19
def fX12_goSummer_104 : Nat → Int32 → mT → Option (mT)
  | 0, _, _ => none
  | k + 1, v1, S =>
    grd (kO 187 12 && true) <|
    if (S.1 187 37) ≤ v1 then
      fX12_goSummer_200 S
    else
      grd (kB 199 (2 : Int32) && (kO 187 12 && true)) <|
      if (S.1 199 (mIx (2 : Int32))) = 0 then
        fX12_goSummer_200 S
      else
        grd (kI 210 v1 && (kO 187 12 && (kI 209 v1 && (kO 187 12 && true)))) <|
        grd (kO 187 12 && (kI 207 v1 && (kO 187 12 && (kI 206 v1 && (kO 187 12 && true))))) <|
        grd (kO 187 12 && (kI 211 v1 && true)) <|
        bndV (fX12_askOf (S.1 209 (mIx v1)) (S.1 210 (mIx v1)) (S.1 206 (mIx v1)) (S.1 207 (mIx v1)) (S.1 211 (mIx v1)) (S.1 187 43) S) fun S9 =>
        grd (kI 209 v1 && (kO 187 12 && (kO 187 12 && true))) <|
        bndC (fX12_worked (2 : Int32) S9) fun x11 S10 =>
        bndC (fX12_bound x11 (-3 : Int32) (3 : Int32) S10) fun x13 S12 =>
        bndC (fX12_bound ((S9.1 209 (mIx v1)) + x13) (0 : Int32) (7 : Int32) S12) fun x15 S14 =>
        grd (kI 209 v1 && true) <|
        bnd (sI S14 209 (mIx v1) x15) fun S16 =>
        bndV (fX12_notMoreHidden v1 S16) fun S17 =>
        bnd (v1 + (1 : Int32)) fun x18 =>
        fX12_goSummer_104 k x18 S17
def fX12_goSummer_102 (S : mT) : Option (mT) :=
  fX12_goSummer_104 mK (0 : Int32) S
def fX12_goSummer_100 (s0 : Int32) (s1 : Int32) (s2 : Int32) (S : mT) : Option (mT) :=
  grd (kI 211 s2 && true) <|
  bnd (sI S 211 (mIx s2) (s1 - s0)) fun S8 =>
  fX12_goSummer_102 S8
def fX12_goSummer_2 : Nat → Int32 → mT → Option (mT)
  | 0, _, _ => none
  | k + 1, v1, S =>
    grd (kO 187 12 && true) <|
    if (S.1 187 37) ≤ v1 then
      grd (kO 187 12 && (decide (¬ (1000 : Int32) = 0) && (kO 187 12 && true))) <|
      bnd (sI S 187 44 ((((S.1 187 44) * (137 : Int32)) + (71 : Int32)) - (((S.1 187 44) * (137 : Int32)) + (71 : Int32)) / (1000 : Int32) * (1000 : Int32))) fun S1 =>
      grd (kO 187 12 && true) <|
      if (S1.1 187 37) ≤ 0 then
        fX12_goSummer_102 S1
      else
        grd (decide (¬ (S1.1 187 37) = 0) && (kO 187 12 && (kO 187 12 && true))) <|
        bnd ((S1.1 187 44) - (S1.1 187 44) / (S1.1 187 37) * (S1.1 187 37)) fun x2 =>
        grd (decide (¬ (3 : Int32) = 0) && (decide (¬ (100 : Int32) = 0) && (kO 187 12 && true))) <|
        bnd (((S1.1 187 44) / (100 : Int32)) - ((S1.1 187 44) / (100 : Int32)) / (3 : Int32) * (3 : Int32)) fun x3 =>
        grd (kI 211 x2 && (kO 187 12 && (kI 211 x2 && (kO 187 12 && true)))) <|
        if x3 ≤ (S1.1 211 (mIx x2)) then
          fX12_goSummer_100 x3 (S1.1 211 (mIx x2)) x2 S1
        else
          grd (kI 211 x2 && (kO 187 12 && true)) <|
          fX12_goSummer_100 (S1.1 211 (mIx x2)) (S1.1 211 (mIx x2)) x2 S1
    else
      grd (kO 187 12 && true) <|
      bndC (fX12_stonesOf v1 S) fun x5 S4 =>
      grd (kI 211 v1 && true) <|
      bnd (sI S4 211 (mIx v1) x5) fun S6 =>
      bnd (v1 + (1 : Int32)) fun x7 =>
      fX12_goSummer_2 k x7 S6
def fX12_goSummer (S : mT) : Option (mT) :=
  fX12_goSummer_2 mK (0 : Int32) S
def fX12_load_2 : Nat → Int32 → mT → Option (mT)
  | 0, _, _ => none
  | k + 1, v1, S =>
    if (5 : Int32) ≤ v1 then
      grd (kO 187 12 && (kI 208 (15 : Int32) && (kO 187 12 && true))) <|
      bnd (sI S 187 43 (S.1 208 (mIx (15 : Int32)))) fun S1 =>
      grd (kO 187 12 && (kI 208 (16 : Int32) && (kO 187 12 && true))) <|
      bnd (sI S1 187 44 (S1.1 208 (mIx (16 : Int32)))) fun S2 =>
      some S2
    else
      grd (kI 209 v1 && (kI 208 v1 && (kO 187 12 && (kO 187 12 && true)))) <|
      bnd (sI S 209 (mIx v1) (S.1 208 (mIx v1))) fun S3 =>
      grd (kI 210 v1 && (kI 208 ((5 : Int32) + v1) && (kO 187 12 && (kO 187 12 && true)))) <|
      bnd (sI S3 210 (mIx v1) (S3.1 208 (mIx ((5 : Int32) + v1)))) fun S4 =>
      grd (kI 211 v1 && (kI 208 ((10 : Int32) + v1) && (kO 187 12 && (kO 187 12 && true)))) <|
      bnd (sI S4 211 (mIx v1) (S4.1 208 (mIx ((10 : Int32) + v1)))) fun S5 =>
      bnd (v1 + (1 : Int32)) fun x6 =>
      fX12_load_2 k x6 S5
def fX12_load (S : mT) : Option (mT) :=
  fX12_load_2 mK (0 : Int32) S
def fX12_goFar_6 : Nat → Int32 → Int32 → mT → Option (mT)
  | 0, _, _, _ => none
  | k + 1, v1, v2, S =>
    if v1 ≤ v2 then
      some S
    else
      bndV (fX12_goSummer S) fun S2 =>
      bnd (v2 + (1 : Int32)) fun x3 =>
      fX12_goFar_6 k v1 x3 S2
def fX12_goFar (v1 : Int32) (S : mT) : Option (mT) :=
  bndV (fX12_load S) fun S1 =>
  fX12_goFar_6 mK v1 (0 : Int32) S1
def fX12_isIn_15 (s0 : Int32) (S : mT) : Option (Int32 × mT) :=
  grd (mFit .boolean s0) (some (s0, S))
def fX12_isIn_14 (S : mT) : Option (Int32 × mT) :=
  fX12_isIn_15 (0 : Int32) S
def fX12_isIn (v0 : Int32) (v1 : Int32) (v2 : Int32) (S : mT) : Option (Int32 × mT) :=
  if v0 < v1 then
    fX12_isIn_14 S
  else
    if v2 < v0 then
      fX12_isIn_14 S
    else
      fX12_isIn_15 (1 : Int32) S
def fX12_bowls (v1 : Int32) (S : mT) : Option (Int32 × mT) :=
  bndC (fX12_isIn v1 (0 : Int32) (60 : Int32) S) fun x2 S1 =>
  if x2 = 0 then
    some ((-1 : Int32), S1)
  else
    bndV (fX12_goFar v1 S1) fun S3 =>
    bndC (fX12_allBowls S3) fun x5 S4 =>
    some (x5, S4)
def fX12_layRoad_63 (rc2 : Int32 → mT → Option (mT)) (rc14 : Int32 → Int32 → Int32 → mT → Option (mT)) (v1 : Int32) (v3 : Int32) (s0 : Int32) (s1 : Int32) (S : mT) : Option (mT) :=
  bndC (fX12_truth s0 S) fun x4 S3 =>
  bnd (s1 + x4) fun x5 =>
  bnd (v3 + (1 : Int32)) fun x6 =>
  rc14 v1 x5 x6 S3
def fX12_layRoad_58 (rc2 : Int32 → mT → Option (mT)) (rc14 : Int32 → Int32 → Int32 → mT → Option (mT)) (v1 : Int32) (v3 : Int32) (s0 : Int32) (S : mT) : Option (mT) :=
  fX12_layRoad_63 rc2 rc14 v1 v3 (1 : Int32) s0 S
def fX12_layRoad_62 (rc2 : Int32 → mT → Option (mT)) (rc14 : Int32 → Int32 → Int32 → mT → Option (mT)) (v1 : Int32) (v3 : Int32) (s0 : Int32) (S : mT) : Option (mT) :=
  fX12_layRoad_63 rc2 rc14 v1 v3 (0 : Int32) s0 S
def fX12_layRoad_14 (rc2 : Int32 → mT → Option (mT)) : Nat → Int32 → Int32 → Int32 → mT → Option (mT)
  | 0, _, _, _, _ => none
  | k + 1, v1, v2, v3, S =>
    grd (kO 187 12 && true) <|
    if (S.1 187 37) ≤ v3 then
      grd (kI 220 v2 && (kO 187 12 && true)) <|
      bnd (sI S 220 (mIx v2) v1) fun S1 =>
      bnd (v1 + (1 : Int32)) fun x2 =>
      rc2 x2 S1
    else
      grd (kI 205 v1 && (kO 187 12 && (kI 205 v3 && (kO 187 12 && true)))) <|
      if (S.1 205 (mIx v3)) < (S.1 205 (mIx v1)) then
        fX12_layRoad_58 rc2 (fX12_layRoad_14 rc2 k) v1 v3 v2 S
      else
        grd (kI 205 v1 && (kO 187 12 && (kI 205 v3 && (kO 187 12 && true)))) <|
        if (S.1 205 (mIx v3)) = (S.1 205 (mIx v1)) then
          if v1 ≤ v3 then
            fX12_layRoad_62 rc2 (fX12_layRoad_14 rc2 k) v1 v3 v2 S
          else
            fX12_layRoad_58 rc2 (fX12_layRoad_14 rc2 k) v1 v3 v2 S
        else
          fX12_layRoad_62 rc2 (fX12_layRoad_14 rc2 k) v1 v3 v2 S
def fX12_layRoad_2 : Nat → Int32 → mT → Option (mT)
  | 0, _, _ => none
  | k + 1, v1, S =>
    grd (kO 187 12 && true) <|
    if (S.1 187 37) ≤ v1 then
      some S
    else
      fX12_layRoad_14 (fX12_layRoad_2 k) mK v1 (0 : Int32) (0 : Int32) S
def fX12_layRoad (S : mT) : Option (mT) :=
  fX12_layRoad_2 mK (0 : Int32) S
def fX12_moved_78 (rc14 : Int32 → Int32 → Int32 → mT → Option (Int32 × mT)) (v1 : Int32) (v2 : Int32) (v3 : Int32) (S : mT) : Option (Int32 × mT) :=
  bnd (v3 + (1 : Int32)) fun x2 =>
  rc14 v1 v2 x2 S
def fX12_moved_55 (rc14 : Int32 → Int32 → Int32 → mT → Option (Int32 × mT)) (v1 : Int32) (v2 : Int32) (v3 : Int32) (S : mT) : Option (Int32 × mT) :=
  grd (kO 187 12 && true) <|
  if (S.1 187 37) ≤ (v3 + (1 : Int32)) then
    fX12_moved_78 rc14 v1 v2 v3 S
  else
    grd (kI 220 (v3 + (1 : Int32)) && (kO 187 12 && true)) <|
    bnd (v2 ||| ((1 : Int32) <<< ((S.1 220 (mIx (v3 + (1 : Int32)))) &&& 31))) fun x3 =>
    fX12_moved_78 rc14 v1 x3 v3 S
def fX12_moved_14 : Nat → Int32 → Int32 → Int32 → mT → Option (Int32 × mT)
  | 0, _, _, _, _ => none
  | k + 1, v1, v2, v3, S =>
    grd (kO 187 12 && true) <|
    if (S.1 187 37) ≤ v3 then
      some (v2, S)
    else
      grd (kI 220 v3 && (kO 187 12 && true)) <|
      if ((v1 >>> ((S.1 220 (mIx v3)) &&& 31)) &&& (1 : Int32)) = 0 then
        fX12_moved_78 (fX12_moved_14 k) v1 v2 v3 S
      else
        if v3 ≤ 0 then
          fX12_moved_55 (fX12_moved_14 k) v1 v2 v3 S
        else
          grd (kI 220 (v3 - (1 : Int32)) && (kO 187 12 && true)) <|
          bnd (v2 ||| ((1 : Int32) <<< ((S.1 220 (mIx (v3 - (1 : Int32)))) &&& 31))) fun x1 =>
          fX12_moved_55 (fX12_moved_14 k) v1 x1 v3 S
def fX12_moved (v1 : Int32) (S : mT) : Option (Int32 × mT) :=
  grd (kO 187 12 && true) <|
  if (S.1 187 37) = (1 : Int32) then
    some (v1, S)
  else
    fX12_moved_14 mK v1 (0 : Int32) (0 : Int32) S
def fX12_chase_170 (rc66 : Int32 → Int32 → Int32 → mT → Option (Int32 × mT)) (rc83 : Int32 → Int32 → Int32 → Int32 → mT → Option (Int32 × mT)) (v1 : Int32) (v2 : Int32) (v3 : Int32) (v4 : Int32) (S : mT) : Option (Int32 × mT) :=
  bnd (v4 + (1 : Int32)) fun x19 =>
  rc83 v1 v2 v3 x19 S
def fX12_chase_176 (rc66 : Int32 → Int32 → Int32 → mT → Option (Int32 × mT)) (v1 : Int32) (v2 : Int32) (v3 : Int32) (S : mT) : Option (Int32 × mT) :=
  bnd (v3 + (1 : Int32)) fun x18 =>
  rc66 v1 v2 x18 S
def fX12_chase_83 (rc66 : Int32 → Int32 → Int32 → mT → Option (Int32 × mT)) : Nat → Int32 → Int32 → Int32 → Int32 → mT → Option (Int32 × mT)
  | 0, _, _, _, _, _ => none
  | k + 1, v1, v2, v3, v4, S =>
    grd (kO 187 12 && true) <|
    if (S.1 187 37) ≤ v4 then
      fX12_chase_176 rc66 v1 v2 v3 S
    else
      grd (kI 222 (0 : Int32) && (kO 187 12 && true)) <|
      if 0 ≤ (S.1 222 (mIx (0 : Int32))) then
        fX12_chase_176 rc66 v1 v2 v3 S
      else
        grd (kI 223 v3 && (kO 187 12 && true)) <|
        bnd ((S.1 223 (mIx v3)) &&& (((1 : Int32) <<< (v4 &&& 31)) ^^^ (-1 : Int32))) fun x8 =>
        bndC (fX12_moved x8 S) fun x10 S9 =>
        grd (kI 222 x10 && (kO 187 12 && true)) <|
        if (S9.1 222 (mIx x10)) < 0 then
          grd (kI 221 x10 && (kI 223 v3 && (kO 187 12 && (kO 187 12 && true)))) <|
          bnd (sI S9 221 (mIx x10) (S9.1 223 (mIx v3))) fun S11 =>
          grd (kI 222 x10 && (kO 187 12 && true)) <|
          bnd (sI S11 222 (mIx x10) v4) fun S12 =>
          grd (kI 223 v2 && (kO 187 12 && true)) <|
          bnd (sI S12 223 (mIx v2) x10) fun S13 =>
          bnd (v2 + (1 : Int32)) fun x14 =>
          fX12_chase_170 rc66 (fX12_chase_83 rc66 k) v1 x14 v3 v4 S13
        else
          fX12_chase_170 rc66 (fX12_chase_83 rc66 k) v1 v2 v3 v4 S9
def fX12_chase_227 : Nat → Int32 → Int32 → Int32 → mT → Option (Int32 × mT)
  | 0, _, _, _, _ => none
  | k + 1, v3, v4, v5, S =>
    if v5 < 0 then
      grd (kO 187 12 && true) <|
      bnd (sI S 187 51 v3) fun S20 =>
      some (v3, S20)
    else
      grd (kI 215 v5 && (kI 222 v4 && (kO 187 12 && (kO 187 12 && true)))) <|
      bnd (sI S 215 (mIx v5) (S.1 222 (mIx v4))) fun S21 =>
      grd (kI 221 v4 && (kO 187 12 && true)) <|
      bnd (S21.1 221 (mIx v4)) fun x22 =>
      bnd (v5 + (-1 : Int32)) fun x23 =>
      fX12_chase_227 k v3 x22 x23 S21
def fX12_chase_198 : Nat → Int32 → Int32 → Int32 → mT → Option (Int32 × mT)
  | 0, _, _, _, _ => none
  | k + 1, v1, v3, v4, S =>
    if v4 = v1 then
      bnd (v3 - (1 : Int32)) fun x15 =>
      fX12_chase_227 mK v3 (0 : Int32) x15 S
    else
      bnd (v3 + (1 : Int32)) fun x16 =>
      grd (kI 221 v4 && (kO 187 12 && true)) <|
      bnd (S.1 221 (mIx v4)) fun x17 =>
      fX12_chase_198 k v1 x16 x17 S
def fX12_chase_182 (v1 : Int32) (S : mT) : Option (Int32 × mT) :=
  grd (kI 222 (0 : Int32) && (kO 187 12 && true)) <|
  if 0 ≤ (S.1 222 (mIx (0 : Int32))) then
    fX12_chase_198 mK v1 (0 : Int32) (0 : Int32) S
  else
    some ((-1 : Int32), S)
def fX12_chase_66 : Nat → Int32 → Int32 → Int32 → mT → Option (Int32 × mT)
  | 0, _, _, _, _ => none
  | k + 1, v1, v2, v3, S =>
    if v2 ≤ v3 then
      fX12_chase_182 v1 S
    else
      grd (kI 222 (0 : Int32) && (kO 187 12 && true)) <|
      if 0 ≤ (S.1 222 (mIx (0 : Int32))) then
        fX12_chase_182 v1 S
      else
        fX12_chase_83 (fX12_chase_66 k) mK v1 v2 v3 (0 : Int32) S
def fX12_chase_29 : Nat → Int32 → Int32 → mT → Option (Int32 × mT)
  | 0, _, _, _ => none
  | k + 1, v1, v2, S =>
    if (32 : Int32) ≤ v2 then
      grd (kI 222 v1 && (kO 187 12 && true)) <|
      bnd (sI S 222 (mIx v1) (5 : Int32)) fun S4 =>
      grd (kI 223 (0 : Int32) && (kO 187 12 && true)) <|
      bnd (sI S4 223 (mIx (0 : Int32)) v1) fun S5 =>
      fX12_chase_66 mK v1 (1 : Int32) (0 : Int32) S5
    else
      grd (kI 222 v2 && (kO 187 12 && true)) <|
      bnd (sI S 222 (mIx v2) (-1 : Int32)) fun S6 =>
      bnd (v2 + (1 : Int32)) fun x7 =>
      fX12_chase_29 k v1 x7 S6
def fX12_chase (S : mT) : Option (Int32 × mT) :=
  grd (kO 187 12 && true) <|
  bnd (sI S 187 51 (0 : Int32)) fun S1 =>
  grd (kO 187 12 && true) <|
  if (S1.1 187 37) = 0 then
    some ((-1 : Int32), S1)
  else
    bndV (fX12_layRoad S1) fun S2 =>
    grd (kO 187 12 && true) <|
    bnd (((1 : Int32) <<< ((S2.1 187 37) &&& 31)) - (1 : Int32)) fun x3 =>
    fX12_chase_29 mK x3 (0 : Int32) S2
def fX12_tight (v0 : Int32) (S : mT) : Option (Int32 × mT) :=
  if (21 : Int) = v0.toInt then
    some ((3 : Int32), S)
  else
    if (38 : Int) = v0.toInt then
      some ((2 : Int32), S)
    else
      if (43 : Int) = v0.toInt then
        some ((5 : Int32), S)
      else
        if (45 : Int) = v0.toInt then
          some ((5 : Int32), S)
        else
          if (60 : Int) = v0.toInt then
            some ((4 : Int32), S)
          else
            if (61 : Int) = v0.toInt then
              some ((4 : Int32), S)
            else
              if (62 : Int) = v0.toInt then
                some ((4 : Int32), S)
              else
                if (124 : Int) = v0.toInt then
                  some ((1 : Int32), S)
                else
                  some ((6 : Int32), S)
def fX12_close_101 (S : mT) : Option (mT) :=
  some S
def fX12_close_0 : Nat → Int32 → mT → Option (mT)
  | 0, _, _ => none
  | k + 1, v1, S =>
    grd (kO 187 12 && true) <|
    if (S.1 187 22) ≤ 0 then
      fX12_close_101 S
    else
      grd (kI 196 ((S.1 187 22) - (1 : Int32)) && (kO 187 12 && (kO 187 12 && true))) <|
      if (S.1 196 (mIx ((S.1 187 22) - (1 : Int32)))) = (20 : Int32) then
        fX12_close_101 S
      else
        grd (kI 196 ((S.1 187 22) - (1 : Int32)) && (kO 187 12 && (kO 187 12 && true))) <|
        bndC (fX12_tight (S.1 196 (mIx ((S.1 187 22) - (1 : Int32)))) S) fun x2 S1 =>
        if x2 < v1 then
          fX12_close_101 S1
        else
          grd (kO 187 12 && (kO 187 12 && true)) <|
          bnd (sI S1 187 22 ((S1.1 187 22) - (1 : Int32))) fun S3 =>
          grd (kI 196 (S3.1 187 22) && (kO 187 12 && (kO 187 12 && true))) <|
          if (S3.1 196 (mIx (S3.1 187 22))) = (21 : Int32) then
            bndV (fX12_add (2 : Int32) (0 : Int32) S3) fun S4 =>
            grd (kO 187 12 && (kO 187 12 && true)) <|
            bnd (sI S4 187 26 ((S4.1 187 26) - (1 : Int32))) fun S5 =>
            fX12_close_0 k v1 S5
          else
            grd (kI 196 (S3.1 187 22) && (kO 187 12 && (kO 187 12 && true))) <|
            bndV (fX12_add (3 : Int32) (S3.1 196 (mIx (S3.1 187 22))) S3) fun S6 =>
            fX12_close_0 k v1 S6
def fX12_close (v1 : Int32) (S : mT) : Option (mT) :=
  fX12_close_0 mK v1 S
def fX12_isHouse (v1 : Int32) (S : mT) : Option (Int32 × mT) :=
  grd (kO 187 12 && true) <|
  bndC (fX12_isIn v1 (0 : Int32) ((S.1 187 37) - (1 : Int32)) S) fun x2 S1 =>
  grd (mFit .boolean x2) (some (x2, S1))
def fX12_comes_19 (S : mT) : Option (Int32 × mT) :=
  some ((-1 : Int32), S)
def fX12_comes (v1 : Int32) (S : mT) : Option (Int32 × mT) :=
  bndC (fX12_isHouse v1 S) fun x2 S1 =>
  if x2 = 0 then
    fX12_comes_19 S1
  else
    grd (kI 208 v1 && (kO 187 12 && true)) <|
    if (S1.1 208 (mIx v1)) = (7 : Int32) then
      fX12_comes_19 S1
    else
      bndV (fX12_act S1) fun S3 =>
      grd (kI 208 v1 && (kI 208 v1 && (kO 187 12 && true))) <|
      bnd (sI S3 208 (mIx v1) ((S3.1 208 (mIx v1)) + (1 : Int32))) fun S4 =>
      grd (kI 208 v1 && (kO 187 12 && true)) <|
      some ((S4.1 208 (mIx v1)), S4)
def fX12_common_4 : Nat → Int32 → Int32 → mT → Option (Int32 × mT)
  | 0, _, _, _ => none
  | k + 1, v2, v3, S =>
    if v3 ≤ 0 then
      some (v2, S)
    else
      grd (decide (¬ v3 = 0) && true) <|
      bnd (v2 - v2 / v3 * v3) fun x1 =>
      fX12_common_4 k v3 x1 S
def fX12_common (v0 : Int32) (v1 : Int32) (S : mT) : Option (Int32 × mT) :=
  fX12_common_4 mK v0 v1 S
def fX12_countUnit (S : mT) : Option (mT) :=
  grd (kO 187 12 && (kO 187 12 && true)) <|
  bnd (sI S 187 23 ((S.1 187 23) + (1 : Int32))) fun S1 =>
  grd (kO 187 12 && (kO 187 12 && true)) <|
  bnd (sI S1 187 25 ((S1.1 187 25) + (1 : Int32))) fun S2 =>
  some S2
def fX12_countersRows_4 : Nat → Int32 → Int32 → mT → Option (Int32 × mT)
  | 0, _, _, _ => none
  | k + 1, v1, v2, S =>
    grd (kO 187 12 && true) <|
    if (S.1 187 37) ≤ v2 then
      some (v1, S)
    else
      bnd (v1 * (5 : Int32)) fun x1 =>
      bnd (v2 + (1 : Int32)) fun x2 =>
      fX12_countersRows_4 k x1 x2 S
def fX12_countersRows (S : mT) : Option (Int32 × mT) :=
  fX12_countersRows_4 mK (1 : Int32) (0 : Int32) S
def fX12_doneAt_78 (rc4 : Int32 → Int32 → mT → Option (Int32 × mT)) (rc17 : Int32 → Int32 → Int32 → Int32 → Int32 → mT → Option (Int32 × mT)) (v1 : Int32) (v2 : Int32) (v3 : Int32) (v4 : Int32) (v5 : Int32) (S : mT) : Option (Int32 × mT) :=
  bnd (v5 + (1 : Int32)) fun x3 =>
  rc17 v1 v2 v3 v4 x3 S
def fX12_doneAt_62 (rc4 : Int32 → Int32 → mT → Option (Int32 × mT)) (rc17 : Int32 → Int32 → Int32 → Int32 → Int32 → mT → Option (Int32 × mT)) (v1 : Int32) (v2 : Int32) (v4 : Int32) (v5 : Int32) (s0 : Int32) (S : mT) : Option (Int32 × mT) :=
  grd (kI 208 ((10 : Int32) + v5) && (kO 187 12 && true)) <|
  bnd (v4 + (S.1 208 (mIx ((10 : Int32) + v5)))) fun x2 =>
  fX12_doneAt_78 rc4 rc17 v1 v2 s0 x2 v5 S
def fX12_doneAt_100 (rc4 : Int32 → Int32 → mT → Option (Int32 × mT)) (v2 : Int32) (s0 : Int32) (S : mT) : Option (Int32 × mT) :=
  bnd (v2 + (1 : Int32)) fun x1 =>
  rc4 s0 x1 S
def fX12_doneAt_17 (rc4 : Int32 → Int32 → mT → Option (Int32 × mT)) : Nat → Int32 → Int32 → Int32 → Int32 → Int32 → mT → Option (Int32 × mT)
  | 0, _, _, _, _, _, _ => none
  | k + 1, v1, v2, v3, v4, v5, S =>
    grd (kO 187 12 && true) <|
    if (S.1 187 37) ≤ v5 then
      if (v3 + v4) ≤ v1 then
        fX12_doneAt_100 rc4 v2 v1 S
      else
        fX12_doneAt_100 rc4 v2 (v3 + v4) S
    else
      grd (kI 216 v5 && (kO 187 12 && true)) <|
      if (S.1 216 (mIx v5)) = v2 then
        grd (kI 205 v5 && (kO 187 12 && true)) <|
        if (S.1 205 (mIx v5)) ≤ v3 then
          fX12_doneAt_62 rc4 (fX12_doneAt_17 rc4 k) v1 v2 v4 v5 v3 S
        else
          grd (kI 205 v5 && (kO 187 12 && true)) <|
          fX12_doneAt_62 rc4 (fX12_doneAt_17 rc4 k) v1 v2 v4 v5 (S.1 205 (mIx v5)) S
      else
        fX12_doneAt_78 rc4 (fX12_doneAt_17 rc4 k) v1 v2 v3 v4 v5 S
def fX12_doneAt_4 : Nat → Int32 → Int32 → mT → Option (Int32 × mT)
  | 0, _, _, _ => none
  | k + 1, v1, v2, S =>
    if (5 : Int32) ≤ v2 then
      some (v1, S)
    else
      fX12_doneAt_17 (fX12_doneAt_4 k) mK v1 v2 (0 : Int32) (0 : Int32) (0 : Int32) S
def fX12_doneAt (S : mT) : Option (Int32 × mT) :=
  fX12_doneAt_4 mK (0 : Int32) (0 : Int32) S
def fX12_without_42 (rc9 : Int32 → Int32 → Int32 → Int32 → mT → Option (Int32 × mT)) (v1 : Int32) (v2 : Int32) (v4 : Int32) (s0 : Int32) (s1 : Int32) (S : mT) : Option (Int32 × mT) :=
  bndC (fX12_truth s0 S) fun x5 S4 =>
  bnd (s1 ||| (x5 <<< (v4 &&& 31))) fun x6 =>
  bnd (v4 + (1 : Int32)) fun x7 =>
  rc9 v1 v2 x6 x7 S4
def fX12_without_9 : Nat → Int32 → Int32 → Int32 → Int32 → mT → Option (Int32 × mT)
  | 0, _, _, _, _, _ => none
  | k + 1, v1, v2, v3, v4, S =>
    grd (kO 187 12 && true) <|
    if (S.1 187 37) ≤ v4 then
      some (v3, S)
    else
      bndC (fX12_allBowls S) fun x3 S2 =>
      grd (kI 211 v4 && (kO 187 12 && true)) <|
      if (x3 + (v2 * (S2.1 211 (mIx v4)))) = v1 then
        fX12_without_42 (fX12_without_9 k) v1 v2 v4 (1 : Int32) v3 S2
      else
        fX12_without_42 (fX12_without_9 k) v1 v2 v4 (0 : Int32) v3 S2
def fX12_without (v1 : Int32) (v2 : Int32) (S : mT) : Option (Int32 × mT) :=
  bndV (fX12_load S) fun S1 =>
  fX12_without_9 mK v1 v2 (0 : Int32) (0 : Int32) S1
def fX12_doubled (v1 : Int32) (S : mT) : Option (Int32 × mT) :=
  bndC (fX12_without v1 (1 : Int32) S) fun x2 S1 =>
  some (x2, S1)
def fX12_taxOf_36 (s0 : Int32) (S : mT) : Option (Int32 × mT) :=
  bndC (fX12_bound s0 (0 : Int32) (999 : Int32) S) fun x5 S4 =>
  some (x5, S4)
def fX12_taxOf (v1 : Int32) (v2 : Int32) (S : mT) : Option (Int32 × mT) :=
  grd (kI 206 v1 && (kO 187 12 && true)) <|
  grd (kO 187 12 && true) <|
  bndV (fX12_askOf (0 : Int32) (0 : Int32) (S.1 206 (mIx v1)) (0 : Int32) v2 (S.1 187 43) S) fun S1 =>
  grd (kB 199 (1 : Int32) && (kO 187 12 && true)) <|
  if (S1.1 199 (mIx (1 : Int32))) = 0 then
    fX12_taxOf_36 v2 S1
  else
    bndC (fX12_worked (1 : Int32) S1) fun x3 S2 =>
    fX12_taxOf_36 x3 S2
def fX12_partOf (v1 : Int32) (v2 : Int32) (S : mT) : Option (Int32 × mT) :=
  if v2 = (0 : Int32) then
    grd (kI 209 v1 && (kO 187 12 && true)) <|
    some ((S.1 209 (mIx v1)), S)
  else
    if v2 = (1 : Int32) then
      grd (kI 210 v1 && (kO 187 12 && true)) <|
      some ((S.1 210 (mIx v1)), S)
    else
      if v2 = (2 : Int32) then
        grd (kI 211 v1 && (kO 187 12 && true)) <|
        some ((S.1 211 (mIx v1)), S)
      else
        if v2 = (3 : Int32) then
          bndC (fX12_stonesOf v1 S) fun x8 S7 =>
          some (x8, S7)
        else
          if v2 = (4 : Int32) then
            grd (kI 211 v1 && (kO 187 12 && true)) <|
            bndC (fX12_taxOf v1 (S.1 211 (mIx v1)) S) fun x6 S5 =>
            some (x6, S5)
          else
            bndC (fX12_stonesOf v1 S) fun x2 S1 =>
            bndC (fX12_taxOf v1 x2 S1) fun x4 S3 =>
            some (x4, S3)
def fX12_sum_19 : Nat → Int32 → Int32 → Int32 → mT → Option (Int32 × mT)
  | 0, _, _, _, _ => none
  | k + 1, v1, v2, v3, S =>
    grd (kO 187 12 && true) <|
    if (S.1 187 37) ≤ v3 then
      some (v2, S)
    else
      bndC (fX12_partOf v3 v1 S) fun x5 S4 =>
      bnd (v2 + x5) fun x6 =>
      bnd (v3 + (1 : Int32)) fun x7 =>
      fX12_sum_19 k v1 x6 x7 S4
def fX12_sum (v1 : Int32) (S : mT) : Option (Int32 × mT) :=
  bndC (fX12_isIn v1 (0 : Int32) (5 : Int32) S) fun x2 S1 =>
  if x2 = 0 then
    some ((-1 : Int32), S1)
  else
    bndV (fX12_load S1) fun S3 =>
    fX12_sum_19 mK v1 (0 : Int32) (0 : Int32) S3
def fX12_draft_27 (S : mT) : Option (Int32 × mT) :=
  some ((-1 : Int32), S)
def fX12_draft_79 (rc35 : Int32 → Int32 → Int32 → mT → Option (Int32 × mT)) (rc46 : Int32 → Int32 → Int32 → Int32 → Int32 → mT → Option (Int32 × mT)) (v1 : Int32) (v2 : Int32) (v3 : Int32) (v5 : Int32) (s0 : Int32) (S : mT) : Option (Int32 × mT) :=
  bnd (v5 + (1 : Int32)) fun x10 =>
  rc46 v1 v2 v3 s0 x10 S
def fX12_draft_46 (rc35 : Int32 → Int32 → Int32 → mT → Option (Int32 × mT)) : Nat → Int32 → Int32 → Int32 → Int32 → Int32 → mT → Option (Int32 × mT)
  | 0, _, _, _, _, _, _ => none
  | k + 1, v1, v2, v3, v4, v5, S =>
    grd (kO 187 12 && true) <|
    if (S.1 187 37) ≤ v5 then
      grd (kI 209 v4 && (kI 209 v4 && (kO 187 12 && true))) <|
      bnd (sI S 209 (mIx v4) ((S.1 209 (mIx v4)) - (1 : Int32))) fun S8 =>
      bnd (v3 + (1 : Int32)) fun x9 =>
      rc35 v1 v2 x9 S8
    else
      grd (kI 209 v4 && (kO 187 12 && (kI 209 v5 && (kO 187 12 && true)))) <|
      if (S.1 209 (mIx v5)) ≤ (S.1 209 (mIx v4)) then
        fX12_draft_79 rc35 (fX12_draft_46 rc35 k) v1 v2 v3 v5 v4 S
      else
        fX12_draft_79 rc35 (fX12_draft_46 rc35 k) v1 v2 v3 v5 v5 S
def fX12_draft_35 : Nat → Int32 → Int32 → Int32 → mT → Option (Int32 × mT)
  | 0, _, _, _, _ => none
  | k + 1, v1, v2, v3, S =>
    if v2 ≤ v3 then
      grd (kI 209 v1 && (kO 187 12 && (kI 208 v1 && (kO 187 12 && true)))) <|
      some (((S.1 208 (mIx v1)) - (S.1 209 (mIx v1))), S)
    else
      fX12_draft_46 (fX12_draft_35 k) mK v1 v2 v3 (0 : Int32) (1 : Int32) S
def fX12_draft (v1 : Int32) (v2 : Int32) (S : mT) : Option (Int32 × mT) :=
  bndC (fX12_isHouse v1 S) fun x2 S1 =>
  if x2 = 0 then
    fX12_draft_27 S1
  else
    bndC (fX12_isIn v2 (0 : Int32) (35 : Int32) S1) fun x4 S3 =>
    if x4 = 0 then
      fX12_draft_27 S3
    else
      bndC (fX12_sum (0 : Int32) S3) fun x6 S5 =>
      if v2 ≤ x6 then
        bndV (fX12_load S5) fun S7 =>
        fX12_draft_35 mK v1 v2 (0 : Int32) S7
      else
        fX12_draft_27 S5
def fX12_end_12 (S : mT) : Option (Int32 × mT) :=
  some ((-1 : Int32), S)
def fX12_end (v1 : Int32) (S : mT) : Option (Int32 × mT) :=
  if v1 < 0 then
    fX12_end_12 S
  else
    grd (kO 187 12 && true) <|
    if v1 ≤ (S.1 187 1) then
      grd (kO 187 12 && true) <|
      bnd (sI S 187 1 v1) fun S1 =>
      some (v1, S1)
    else
      fX12_end_12 S
def fX12_exchange_2 : Nat → Int32 → Int32 → mT → Option (mT)
  | 0, _, _, _ => none
  | k + 1, v1, v2, S =>
    if (17 : Int32) ≤ v2 then
      some S
    else
      grd (kI 212 (v1 + v2) && (kO 187 12 && true)) <|
      bnd (S.1 212 (mIx (v1 + v2))) fun x1 =>
      grd (kI 212 (v1 + v2) && (kI 208 v2 && (kO 187 12 && (kO 187 12 && true)))) <|
      bnd (sI S 212 (mIx (v1 + v2)) (S.1 208 (mIx v2))) fun S2 =>
      grd (kI 208 v2 && (kO 187 12 && true)) <|
      bnd (sI S2 208 (mIx v2) x1) fun S3 =>
      bnd (v2 + (1 : Int32)) fun x4 =>
      fX12_exchange_2 k v1 x4 S3
def fX12_exchange (v1 : Int32) (S : mT) : Option (mT) :=
  fX12_exchange_2 mK v1 (0 : Int32) S
def fX12_falses_36 (rc4 : Int32 → Int32 → mT → Option (Int32 × mT)) (v2 : Int32) (s0 : Int32) (s1 : Int32) (S : mT) : Option (Int32 × mT) :=
  bndC (fX12_truth s0 S) fun x2 S1 =>
  bnd (s1 ||| (x2 <<< (v2 &&& 31))) fun x3 =>
  bnd (v2 + (1 : Int32)) fun x4 =>
  rc4 x3 x4 S1
def fX12_falses_4 : Nat → Int32 → Int32 → mT → Option (Int32 × mT)
  | 0, _, _, _ => none
  | k + 1, v1, v2, S =>
    grd (kO 187 12 && true) <|
    if (S.1 187 37) ≤ v2 then
      some (v1, S)
    else
      grd (kO 187 12 && (kI 208 ((10 : Int32) + v2) && (kO 187 12 && true))) <|
      grd (kI 208 v2 && true) <|
      if (S.1 208 (mIx ((10 : Int32) + v2))) = (S.1 208 (mIx v2)) then
        fX12_falses_36 (fX12_falses_4 k) v2 (0 : Int32) v1 S
      else
        fX12_falses_36 (fX12_falses_4 k) v2 (1 : Int32) v1 S
def fX12_falses (S : mT) : Option (Int32 × mT) :=
  fX12_falses_4 mK (0 : Int32) (0 : Int32) S
def fX12_fault_24 (s0 : Int32) (S : mT) : Option (Int32 × mT) :=
  some (s0, S)
def fX12_fault (v1 : Int32) (S : mT) : Option (Int32 × mT) :=
  if v1 = 0 then
    grd (kO 187 12 && true) <|
    fX12_fault_24 (S.1 187 2) S
  else
    if v1 = (1 : Int32) then
      grd (kO 187 12 && true) <|
      fX12_fault_24 (S.1 187 3) S
    else
      fX12_fault_24 (-1 : Int32) S
def fX12_four_3 : Nat → Int32 → Int32 → mT → Option (mT)
  | 0, _, _, _ => none
  | k + 1, v1, v2, S =>
    if v2 < 0 then
      some S
    else
      grd (kI 188 (S.1 187 1) && (kO 187 12 && (kO 187 12 && true))) <|
      bnd (sI S 188 (mIx (S.1 187 1)) ((v1 >>> (v2 &&& 31)) &&& (255 : Int32))) fun S1 =>
      grd (kO 187 12 && (kO 187 12 && true)) <|
      bnd (sI S1 187 1 ((S1.1 187 1) + (1 : Int32))) fun S2 =>
      bnd (v2 + (-8 : Int32)) fun x3 =>
      fX12_four_3 k v1 x3 S2
def fX12_four (v1 : Int32) (S : mT) : Option (mT) :=
  fX12_four_3 mK v1 (24 : Int32) S
def fX12_feed (v1 : Int32) (v2 : Int32) (v3 : Int32) (v4 : Int32) (v5 : Int32) (S : mT) : Option (Int32 × mT) :=
  grd (kO 187 12 && true) <|
  if ((S.1 187 1) + (20 : Int32)) ≤ (1600 : Int32) then
    bndV (fX12_four v1 S) fun S1 =>
    bndV (fX12_four v2 S1) fun S2 =>
    bndV (fX12_four v3 S2) fun S3 =>
    bndV (fX12_four v4 S3) fun S4 =>
    bndV (fX12_four v5 S4) fun S5 =>
    grd (kO 187 12 && true) <|
    some ((S5.1 187 1), S5)
  else
    some ((-1 : Int32), S)
def fX12_find_31 (rc4 : Int32 → Int32 → mT → Option (Int32 × mT)) (v2 : Int32) (s0 : Int32) (S : mT) : Option (Int32 × mT) :=
  bnd (v2 + (1 : Int32)) fun x1 =>
  rc4 s0 x1 S
def fX12_find_4 : Nat → Int32 → Int32 → mT → Option (Int32 × mT)
  | 0, _, _, _ => none
  | k + 1, v1, v2, S =>
    grd (kO 187 12 && true) <|
    if (S.1 187 35) ≤ v2 then
      some (v1, S)
    else
      grd (kO 187 12 && (kJ 189 v2 && (kO 187 12 && true))) <|
      if (lg_cmp (S.2 189 (mIx v2)) (S.2 187 9)) = 0 then
        fX12_find_31 (fX12_find_4 k) v2 v2 S
      else
        fX12_find_31 (fX12_find_4 k) v2 v1 S
def fX12_find (S : mT) : Option (Int32 × mT) :=
  fX12_find_4 mK (-1 : Int32) (0 : Int32) S
def fX12_hasBracket_32 (rc4 : Int32 → Int32 → mT → Option (Int32 × mT)) (v2 : Int32) (s0 : Int32) (S : mT) : Option (Int32 × mT) :=
  bnd (v2 + (1 : Int32)) fun x1 =>
  rc4 s0 x1 S
def fX12_hasBracket_27 (rc4 : Int32 → Int32 → mT → Option (Int32 × mT)) (v2 : Int32) (S : mT) : Option (Int32 × mT) :=
  fX12_hasBracket_32 rc4 v2 (1 : Int32) S
def fX12_hasBracket_4 : Nat → Int32 → Int32 → mT → Option (Int32 × mT)
  | 0, _, _, _ => none
  | k + 1, v1, v2, S =>
    grd (kO 187 12 && true) <|
    if (S.1 187 22) ≤ v2 then
      grd (mFit .boolean v1) (some (v1, S))
    else
      if v1 = 0 then
        grd (kI 196 v2 && (kO 187 12 && true)) <|
        if (S.1 196 (mIx v2)) = (20 : Int32) then
          fX12_hasBracket_27 (fX12_hasBracket_4 k) v2 S
        else
          fX12_hasBracket_32 (fX12_hasBracket_4 k) v2 (0 : Int32) S
      else
        fX12_hasBracket_27 (fX12_hasBracket_4 k) v2 S
def fX12_hasBracket (S : mT) : Option (Int32 × mT) :=
  fX12_hasBracket_4 mK (0 : Int32) (0 : Int32) S
def fX12_hasRelation_74 (s0 : Int32) (S : mT) : Option (Int32 × mT) :=
  grd (mFit .boolean s0) (some (s0, S))
def fX12_hasRelation_73 (S : mT) : Option (Int32 × mT) :=
  fX12_hasRelation_74 (0 : Int32) S
def fX12_hasRelation_41 (v1 : Int32) (S : mT) : Option (Int32 × mT) :=
  if v1 < 0 then
    fX12_hasRelation_73 S
  else
    grd (kI 196 v1 && (kO 187 12 && true)) <|
    if (S.1 196 (mIx v1)) = (20 : Int32) then
      fX12_hasRelation_73 S
    else
      grd (kI 196 v1 && (kO 187 12 && true)) <|
      bndC (fX12_tight (S.1 196 (mIx v1)) S) fun x6 S5 =>
      if x6 = (4 : Int32) then
        fX12_hasRelation_74 (1 : Int32) S5
      else
        fX12_hasRelation_73 S5
def fX12_hasRelation_7 : Nat → Int32 → mT → Option (Int32 × mT)
  | 0, _, _ => none
  | k + 1, v1, S =>
    if v1 < 0 then
      fX12_hasRelation_41 v1 S
    else
      grd (kI 196 v1 && (kO 187 12 && true)) <|
      if (S.1 196 (mIx v1)) = (20 : Int32) then
        fX12_hasRelation_41 v1 S
      else
        grd (kI 196 v1 && (kO 187 12 && true)) <|
        bndC (fX12_tight (S.1 196 (mIx v1)) S) fun x3 S2 =>
        if x3 ≤ (4 : Int32) then
          fX12_hasRelation_41 v1 S2
        else
          bnd (v1 + (-1 : Int32)) fun x4 =>
          fX12_hasRelation_7 k x4 S2
def fX12_hasRelation (S : mT) : Option (Int32 × mT) :=
  grd (kO 187 12 && true) <|
  bnd ((S.1 187 22) - (1 : Int32)) fun x1 =>
  fX12_hasRelation_7 mK x1 S
def fX12_isWord_22 (s0 : Int32) (S : mT) : Option (Int32 × mT) :=
  grd (mFit .boolean s0) (some (s0, S))
def fX12_isWord_21 (S : mT) : Option (Int32 × mT) :=
  fX12_isWord_22 (0 : Int32) S
def fX12_isWord (v1 : Int64) (S : mT) : Option (Int32 × mT) :=
  grd (kO 187 12 && true) <|
  if (S.1 187 6) = (1 : Int32) then
    grd (kO 187 12 && true) <|
    if (lg_cmp (S.2 187 9) v1) = 0 then
      fX12_isWord_22 (1 : Int32) S
    else
      fX12_isWord_21 S
  else
    fX12_isWord_21 S
def fX12_sign_106 (s0 : Int32) (S : mT) : Option (Int32 × mT) :=
  some (s0, S)
def fX12_sign_98 (S : mT) : Option (Int32 × mT) :=
  grd (kO 187 12 && true) <|
  fX12_sign_106 (S.1 187 6) S
def fX12_sign (S : mT) : Option (Int32 × mT) :=
  bndC (fX12_isWord (6385252 : Int64) S) fun x2 S1 =>
  if x2 = 0 then
    bndC (fX12_isWord (28530 : Int64) S1) fun x4 S3 =>
    if x4 = 0 then
      grd (kO 187 12 && true) <|
      if (S3.1 187 6) = (60 : Int32) then
        fX12_sign_98 S3
      else
        grd (kO 187 12 && true) <|
        if (S3.1 187 6) = (62 : Int32) then
          fX12_sign_98 S3
        else
          grd (kO 187 12 && true) <|
          if (S3.1 187 6) = (61 : Int32) then
            fX12_sign_98 S3
          else
            grd (kO 187 12 && true) <|
            if (S3.1 187 6) = (43 : Int32) then
              fX12_sign_98 S3
            else
              grd (kO 187 12 && true) <|
              if (S3.1 187 6) = (45 : Int32) then
                fX12_sign_98 S3
              else
                grd (kO 187 12 && true) <|
                if (S3.1 187 6) = (42 : Int32) then
                  fX12_sign_98 S3
                else
                  grd (kO 187 12 && true) <|
                  if (S3.1 187 6) = (47 : Int32) then
                    fX12_sign_98 S3
                  else
                    grd (kO 187 12 && true) <|
                    if (S3.1 187 6) = (37 : Int32) then
                      fX12_sign_98 S3
                    else
                      fX12_sign_106 (0 : Int32) S3
    else
      some ((124 : Int32), S3)
  else
    some ((38 : Int32), S1)
def fX12_here_28 (s0 : Int32) (S : mT) : Option (Int32 × mT) :=
  some (s0, S)
def fX12_here (v1 : Int32) (S : mT) : Option (Int32 × mT) :=
  grd (kO 187 12 && (kO 187 12 && true)) <|
  if (S.1 187 5) ≤ ((S.1 187 4) + v1) then
    fX12_here_28 (-1 : Int32) S
  else
    grd (kI 188 ((S.1 187 4) + v1) && (kO 187 12 && (kO 187 12 && true))) <|
    fX12_here_28 (S.1 188 (mIx ((S.1 187 4) + v1))) S
def fX12_isDigit_17 (s0 : Int32) (S : mT) : Option (Int32 × mT) :=
  grd (mFit .boolean s0) (some (s0, S))
def fX12_isDigit_16 (S : mT) : Option (Int32 × mT) :=
  fX12_isDigit_17 (0 : Int32) S
def fX12_isDigit (v0 : Int32) (S : mT) : Option (Int32 × mT) :=
  if v0 < (48 : Int32) then
    fX12_isDigit_16 S
  else
    if (57 : Int32) < v0 then
      fX12_isDigit_16 S
    else
      fX12_isDigit_17 (1 : Int32) S
def fX12_isLetter_17 (s0 : Int32) (S : mT) : Option (Int32 × mT) :=
  grd (mFit .boolean s0) (some (s0, S))
def fX12_isLetter_16 (S : mT) : Option (Int32 × mT) :=
  fX12_isLetter_17 (0 : Int32) S
def fX12_isLetter (v0 : Int32) (S : mT) : Option (Int32 × mT) :=
  if v0 < (97 : Int32) then
    fX12_isLetter_16 S
  else
    if (122 : Int32) < v0 then
      fX12_isLetter_16 S
    else
      fX12_isLetter_17 (1 : Int32) S
def fX12_isSign_71 (s0 : Int32) (S : mT) : Option (Int32 × mT) :=
  grd (mFit .boolean s0) (some (s0, S))
def fX12_isSign_66 (S : mT) : Option (Int32 × mT) :=
  fX12_isSign_71 (1 : Int32) S
def fX12_isSign (v0 : Int32) (S : mT) : Option (Int32 × mT) :=
  if v0 = (59 : Int32) then
    fX12_isSign_66 S
  else
    if v0 = (40 : Int32) then
      fX12_isSign_66 S
    else
      if v0 = (41 : Int32) then
        fX12_isSign_66 S
      else
        if v0 = (60 : Int32) then
          fX12_isSign_66 S
        else
          if v0 = (62 : Int32) then
            fX12_isSign_66 S
          else
            if v0 = (61 : Int32) then
              fX12_isSign_66 S
            else
              if v0 = (43 : Int32) then
                fX12_isSign_66 S
              else
                if v0 = (45 : Int32) then
                  fX12_isSign_66 S
                else
                  if v0 = (42 : Int32) then
                    fX12_isSign_66 S
                  else
                    if v0 = (47 : Int32) then
                      fX12_isSign_66 S
                    else
                      if v0 = (37 : Int32) then
                        fX12_isSign_66 S
                      else
                        fX12_isSign_71 (0 : Int32) S
def fX12_token_20 (rc0 : mT → Option (mT)) (S : mT) : Option (mT) :=
  grd (kO 187 12 && (kO 187 12 && true)) <|
  bnd (sI S 187 4 ((S.1 187 4) + (1 : Int32))) fun S17 =>
  rc0 S17
def fX12_token_113 (rc78 : Int32 → mT → Option (mT)) (v2 : Int32) (S : mT) : Option (mT) :=
  bnd (v2 + (1 : Int32)) fun x41 =>
  rc78 x41 S
def fX12_token_250 (S : mT) : Option (mT) :=
  some S
def fX12_token_232 (v2 : Int32) (S : mT) : Option (mT) :=
  grd (kO 187 12 && true) <|
  if (S.1 187 6) = (3 : Int32) then
    fX12_token_250 S
  else
    grd (kO 187 12 && (kO 187 12 && true)) <|
    bnd (sI S 187 4 ((S.1 187 4) + v2)) fun S37 =>
    fX12_token_250 S37
def fX12_token_131 (v2 : Int32) (s0 : Int32) (S : mT) : Option (mT) :=
  grd (kO 187 12 && true) <|
  bnd (sI S 187 6 s0) fun S40 =>
  fX12_token_232 v2 S40
def fX12_token_78 : Nat → Int32 → mT → Option (mT)
  | 0, _, _ => none
  | k + 1, v2, S =>
    bndC (fX12_here v2 S) fun x31 S30 =>
    bndC (fX12_isLetter x31 S30) fun x33 S32 =>
    if x33 = 0 then
      if v2 ≤ (8 : Int32) then
        fX12_token_131 v2 (1 : Int32) S32
      else
        fX12_token_131 v2 (3 : Int32) S32
    else
      if (8 : Int32) ≤ v2 then
        fX12_token_113 (fX12_token_78 k) v2 S32
      else
        grd (kO 187 12 && true) <|
        bndC (fX12_here v2 S32) fun x35 S34 =>
        grd (kO 187 12 && true) <|
        bnd (sJ S34 187 9 (((S32.2 187 9) <<< ((8 : Int32).toInt64 &&& 63)) ||| (x35.toInt64))) fun S36 =>
        fX12_token_113 (fX12_token_78 k) v2 S36
def fX12_token_180 (rc144 : Int32 → mT → Option (mT)) (v2 : Int32) (S : mT) : Option (mT) :=
  bnd (v2 + (1 : Int32)) fun x39 =>
  rc144 x39 S
def fX12_token_208 (v2 : Int32) (s0 : Int32) (S : mT) : Option (mT) :=
  grd (kO 187 12 && true) <|
  bnd (sI S 187 6 s0) fun S38 =>
  fX12_token_232 v2 S38
def fX12_token_203 (v2 : Int32) (S : mT) : Option (mT) :=
  fX12_token_208 v2 (3 : Int32) S
def fX12_token_144 : Nat → Int32 → mT → Option (mT)
  | 0, _, _ => none
  | k + 1, v2, S =>
    bndC (fX12_here v2 S) fun x20 S19 =>
    bndC (fX12_isDigit x20 S19) fun x22 S21 =>
    if x22 = 0 then
      if (4 : Int32) < v2 then
        fX12_token_203 v2 S21
      else
        bndC (fX12_here v2 S21) fun x24 S23 =>
        bndC (fX12_isLetter x24 S23) fun x26 S25 =>
        if x26 = 0 then
          fX12_token_208 v2 (2 : Int32) S25
        else
          fX12_token_203 v2 S25
    else
      if (4 : Int32) ≤ v2 then
        fX12_token_180 (fX12_token_144 k) v2 S21
      else
        grd (kO 187 12 && true) <|
        bndC (fX12_here v2 S21) fun x28 S27 =>
        grd (kO 187 12 && true) <|
        bnd (sI S27 187 8 ((((10 : Int32) * (S21.1 187 8)) + x28) - (48 : Int32))) fun S29 =>
        fX12_token_180 (fX12_token_144 k) v2 S29
def fX12_token_229 (v2 : Int32) (s0 : Int32) (S : mT) : Option (mT) :=
  grd (kO 187 12 && true) <|
  bnd (sI S 187 6 s0) fun S18 =>
  fX12_token_232 v2 S18
def fX12_token_0 : Nat → mT → Option (mT)
  | 0, _ => none
  | k + 1, S =>
    bndC (fX12_here (0 : Int32) S) fun x2 S1 =>
    if x2 = (32 : Int32) then
      fX12_token_20 (fX12_token_0 k) S1
    else
      bndC (fX12_here (0 : Int32) S1) fun x4 S3 =>
      if x4 = (10 : Int32) then
        fX12_token_20 (fX12_token_0 k) S3
      else
        grd (kO 187 12 && (kO 187 12 && true)) <|
        bnd (sI S3 187 7 (S3.1 187 4)) fun S5 =>
        bndC (fX12_here (0 : Int32) S5) fun x7 S6 =>
        grd (kO 187 12 && true) <|
        bnd (sJ S6 187 9 (0 : Int64)) fun S8 =>
        grd (kO 187 12 && true) <|
        bnd (sI S8 187 8 (0 : Int32)) fun S9 =>
        if 0 ≤ x7 then
          bndC (fX12_isLetter x7 S9) fun x11 S10 =>
          if x11 = 0 then
            bndC (fX12_isDigit x7 S10) fun x13 S12 =>
            if x13 = 0 then
              bndC (fX12_isSign x7 S12) fun x15 S14 =>
              if x15 = 0 then
                fX12_token_229 (1 : Int32) (3 : Int32) S14
              else
                fX12_token_229 (1 : Int32) x7 S14
            else
              fX12_token_144 mK (0 : Int32) S12
          else
            fX12_token_78 mK (0 : Int32) S10
        else
          grd (kO 187 12 && true) <|
          bnd (sI S9 187 6 (0 : Int32)) fun S16 =>
          fX12_token_232 (0 : Int32) S16
def fX12_token (S : mT) : Option (mT) :=
  fX12_token_0 mK S
def fX12_isFull_23 (s0 : Int32) (S : mT) : Option (Int32 × mT) :=
  grd (mFit .boolean s0) (some (s0, S))
def fX12_isFull_18 (S : mT) : Option (Int32 × mT) :=
  fX12_isFull_23 (1 : Int32) S
def fX12_isFull (S : mT) : Option (Int32 × mT) :=
  grd (kO 187 12 && true) <|
  if (S.1 187 23) = (90 : Int32) then
    fX12_isFull_18 S
  else
    grd (kO 187 12 && true) <|
    if (S.1 187 25) = (30 : Int32) then
      fX12_isFull_18 S
    else
      fX12_isFull_23 (0 : Int32) S
def fX12_mayNot_46 (s0 : Int32) (S : mT) : Option (Int32 × mT) :=
  grd (mFit .boolean s0) (some (s0, S))
def fX12_mayNot_41 (S : mT) : Option (Int32 × mT) :=
  fX12_mayNot_46 (1 : Int32) S
def fX12_mayNot (S : mT) : Option (Int32 × mT) :=
  grd (kO 187 12 && true) <|
  if (S.1 187 22) = 0 then
    fX12_mayNot_41 S
  else
    grd (kI 196 ((S.1 187 22) - (1 : Int32)) && (kO 187 12 && (kO 187 12 && true))) <|
    if (S.1 196 (mIx ((S.1 187 22) - (1 : Int32)))) = (20 : Int32) then
      fX12_mayNot_41 S
    else
      grd (kI 196 ((S.1 187 22) - (1 : Int32)) && (kO 187 12 && (kO 187 12 && true))) <|
      bndC (fX12_tight (S.1 196 (mIx ((S.1 187 22) - (1 : Int32)))) S) fun x2 S1 =>
      if (4 : Int32) ≤ x2 then
        fX12_mayNot_46 (0 : Int32) S1
      else
        fX12_mayNot_41 S1
def fX12_openUp_41 (S : mT) : Option (mT) :=
  some S
def fX12_openUp (v1 : Int32) (S : mT) : Option (mT) :=
  grd (kI 196 (S.1 187 22) && (kO 187 12 && (kO 187 12 && true))) <|
  bnd (sI S 196 (mIx (S.1 187 22)) v1) fun S1 =>
  grd (kO 187 12 && (kO 187 12 && true)) <|
  bnd (sI S1 187 22 ((S1.1 187 22) + (1 : Int32))) fun S2 =>
  grd (kO 187 12 && (kO 187 12 && true)) <|
  bnd (sI S2 187 26 ((S2.1 187 26) + (1 : Int32))) fun S3 =>
  grd (kO 187 12 && true) <|
  if (S3.1 187 2) = 0 then
    bndV (fX12_token S3) fun S4 =>
    fX12_openUp_41 S4
  else
    fX12_openUp_41 S3
def fX12_wrong_22 (s0 : Int32) (S : mT) : Option (mT) :=
  grd (kO 187 12 && true) <|
  bnd (sI S 187 2 s0) fun S1 =>
  grd (kO 187 12 && (kO 187 12 && true)) <|
  bnd (sI S1 187 3 (S1.1 187 7)) fun S2 =>
  some S2
def fX12_wrong (v1 : Int32) (S : mT) : Option (mT) :=
  grd (kO 187 12 && true) <|
  if (S.1 187 2) ≤ 0 then
    grd (kO 187 12 && true) <|
    if (S.1 187 6) = (3 : Int32) then
      fX12_wrong_22 (1 : Int32) S
    else
      fX12_wrong_22 v1 S
  else
    some S
def fX12_unit_44 (rc2 : Int32 → mT → Option (mT)) (v1 : Int32) (S : mT) : Option (mT) :=
  bndV (fX12_openUp (21 : Int32) S) fun S10 =>
  rc2 v1 S10
def fX12_unit_83 (rc2 : Int32 → mT → Option (mT)) (v1 : Int32) (S : mT) : Option (mT) :=
  bndV (fX12_countUnit S) fun S14 =>
  bndV (fX12_openUp (20 : Int32) S14) fun S15 =>
  rc2 v1 S15
def fX12_unit_78 (rc2 : Int32 → mT → Option (mT)) (v1 : Int32) (S : mT) : Option (mT) :=
  bndV (fX12_wrong (2 : Int32) S) fun S16 =>
  fX12_unit_83 rc2 v1 S16
def fX12_unit_53 (rc2 : Int32 → mT → Option (mT)) (v1 : Int32) (S : mT) : Option (mT) :=
  grd (kO 187 12 && true) <|
  if (S.1 187 6) = (40 : Int32) then
    bndC (fX12_isFull S) fun x9 S8 =>
    if x9 = 0 then
      grd (kO 187 12 && true) <|
      if (S8.1 187 26) ≤ (6 : Int32) then
        fX12_unit_83 rc2 v1 S8
      else
        fX12_unit_78 rc2 v1 S8
    else
      fX12_unit_78 rc2 v1 S8
  else
    rc2 (0 : Int32) S
def fX12_unit_172 (s0 : Int32) (s1 : Int32) (S : mT) : Option (mT) :=
  bndV (fX12_add s1 s0 S) fun S18 =>
  bndV (fX12_token S18) fun S19 =>
  some S19
def fX12_unit_160 (v2 : Int32) (s0 : Int32) (S : mT) : Option (mT) :=
  if 0 ≤ v2 then
    fX12_unit_172 v2 s0 S
  else
    grd (kO 187 12 && true) <|
    fX12_unit_172 (S.1 187 8) s0 S
def fX12_unit_138 (v2 : Int32) (S : mT) : Option (mT) :=
  grd (kO 187 12 && true) <|
  if (S.1 187 2) ≤ 0 then
    bndV (fX12_countUnit S) fun S17 =>
    if 0 ≤ v2 then
      fX12_unit_160 v2 (1 : Int32) S17
    else
      fX12_unit_160 v2 (0 : Int32) S17
  else
    some S
def fX12_unit_133 (v2 : Int32) (S : mT) : Option (mT) :=
  bndV (fX12_wrong (2 : Int32) S) fun S13 =>
  fX12_unit_138 v2 S13
def fX12_unit_126 (v2 : Int32) (S : mT) : Option (mT) :=
  bndC (fX12_isFull S) fun x12 S11 =>
  if x12 = 0 then
    fX12_unit_138 v2 S11
  else
    fX12_unit_133 v2 S11
def fX12_unit_101 (S : mT) : Option (mT) :=
  grd (kO 187 12 && true) <|
  if (S.1 187 2) ≤ 0 then
    bndC (fX12_asked S) fun x7 S6 =>
    grd (kO 187 12 && true) <|
    if (S6.1 187 6) = (2 : Int32) then
      fX12_unit_126 x7 S6
    else
      if x7 < 0 then
        fX12_unit_133 x7 S6
      else
        fX12_unit_126 x7 S6
  else
    some S
def fX12_unit_2 : Nat → Int32 → mT → Option (mT)
  | 0, _, _ => none
  | k + 1, v1, S =>
    if v1 = 0 then
      fX12_unit_101 S
    else
      grd (kO 187 12 && true) <|
      if (S.1 187 2) = 0 then
        bndC (fX12_isWord (7237492 : Int64) S) fun x2 S1 =>
        if x2 = 0 then
          fX12_unit_53 (fX12_unit_2 k) v1 S1
        else
          bndC (fX12_mayNot S1) fun x4 S3 =>
          if x4 = 0 then
            fX12_unit_53 (fX12_unit_2 k) v1 S3
          else
            grd (kO 187 12 && true) <|
            if (S3.1 187 26) ≤ (6 : Int32) then
              fX12_unit_44 (fX12_unit_2 k) v1 S3
            else
              bndV (fX12_wrong (2 : Int32) S3) fun S5 =>
              fX12_unit_44 (fX12_unit_2 k) v1 S5
      else
        fX12_unit_101 S
def fX12_unit (S : mT) : Option (mT) :=
  fX12_unit_2 mK (1 : Int32) S
def fX12_formula_174 (rc50 : Int32 → mT → Option (mT)) (v2 : Int32) (S : mT) : Option (mT) :=
  rc50 v2 S
def fX12_formula_133 (rc50 : Int32 → mT → Option (mT)) (v2 : Int32) (v3 : Int32) (S : mT) : Option (mT) :=
  bndC (fX12_tight v3 S) fun x26 S25 =>
  bndV (fX12_close x26 S25) fun S27 =>
  grd (kI 196 (S27.1 187 22) && (kO 187 12 && (kO 187 12 && true))) <|
  bnd (sI S27 196 (mIx (S27.1 187 22)) v3) fun S28 =>
  grd (kO 187 12 && (kO 187 12 && true)) <|
  bnd (sI S28 187 22 ((S28.1 187 22) + (1 : Int32))) fun S29 =>
  bndV (fX12_token S29) fun S30 =>
  bndV (fX12_unit S30) fun S31 =>
  fX12_formula_174 rc50 v2 S31
def fX12_formula_172 (rc50 : Int32 → mT → Option (mT)) (S : mT) : Option (mT) :=
  fX12_formula_174 rc50 (0 : Int32) S
def fX12_formula_114 (rc50 : Int32 → mT → Option (mT)) (v2 : Int32) (v3 : Int32) (S : mT) : Option (mT) :=
  if v3 = 0 then
    fX12_formula_172 rc50 S
  else
    bndC (fX12_tight v3 S) fun x21 S20 =>
    if x21 = (4 : Int32) then
      bndC (fX12_hasRelation S20) fun x23 S22 =>
      if x23 = 0 then
        fX12_formula_133 rc50 v2 v3 S22
      else
        fX12_formula_172 rc50 S22
    else
      fX12_formula_133 rc50 v2 v3 S20
def fX12_formula_208 (S : mT) : Option (mT) :=
  some S
def fX12_formula_196 (S : mT) : Option (mT) :=
  grd (kO 187 12 && true) <|
  if (S.1 187 2) = 0 then
    bndV (fX12_close (0 : Int32) S) fun S24 =>
    fX12_formula_208 S24
  else
    fX12_formula_208 S
def fX12_formula_177 (S : mT) : Option (mT) :=
  grd (kO 187 12 && true) <|
  if (S.1 187 2) = 0 then
    bndC (fX12_hasBracket S) fun x18 S17 =>
    if x18 = 0 then
      fX12_formula_196 S17
    else
      bndV (fX12_wrong (2 : Int32) S17) fun S19 =>
      fX12_formula_196 S19
  else
    fX12_formula_196 S
def fX12_formula_50 : Nat → Int32 → mT → Option (mT)
  | 0, _, _ => none
  | k + 1, v2, S =>
    if v2 = 0 then
      fX12_formula_177 S
    else
      grd (kO 187 12 && true) <|
      if (S.1 187 2) = 0 then
        bndC (fX12_sign S) fun x10 S9 =>
        grd (kO 187 12 && true) <|
        if (S9.1 187 6) = (41 : Int32) then
          bndC (fX12_hasBracket S9) fun x12 S11 =>
          if x12 = 0 then
            fX12_formula_114 (fX12_formula_50 k) v2 x10 S11
          else
            bndV (fX12_close (0 : Int32) S11) fun S13 =>
            grd (kO 187 12 && (kO 187 12 && true)) <|
            bnd (sI S13 187 22 ((S13.1 187 22) - (1 : Int32))) fun S14 =>
            grd (kO 187 12 && (kO 187 12 && true)) <|
            bnd (sI S14 187 26 ((S14.1 187 26) - (1 : Int32))) fun S15 =>
            bndV (fX12_token S15) fun S16 =>
            fX12_formula_174 (fX12_formula_50 k) v2 S16
        else
          fX12_formula_114 (fX12_formula_50 k) v2 x10 S9
      else
        fX12_formula_177 S
def fX12_formula (v1 : Int32) (S : mT) : Option (mT) :=
  bndV (fX12_token S) fun S1 =>
  grd (kO 187 12 && true) <|
  bnd (sI S1 187 21 v1) fun S2 =>
  grd (kB 198 (S2.1 187 21) && (kO 187 12 && (kO 187 12 && true))) <|
  bnd (sI S2 198 (mIx (S2.1 187 21)) (kN 198 (1 : Int32))) fun S3 =>
  grd (kI 192 (S3.1 187 21) && (kO 187 12 && (kO 187 12 && true))) <|
  bnd (sI S3 192 (mIx (S3.1 187 21)) (0 : Int32)) fun S4 =>
  grd (kO 187 12 && true) <|
  bnd (sI S4 187 22 (0 : Int32)) fun S5 =>
  grd (kO 187 12 && true) <|
  bnd (sI S5 187 26 (0 : Int32)) fun S6 =>
  grd (kO 187 12 && true) <|
  bnd (sI S6 187 25 (0 : Int32)) fun S7 =>
  bndV (fX12_unit S7) fun S8 =>
  fX12_formula_50 mK (1 : Int32) S8
def fX12_keep_2 : Nat → Int32 → mT → Option (mT)
  | 0, _, _ => none
  | k + 1, v1, S =>
    if (5 : Int32) ≤ v1 then
      grd (kI 208 (15 : Int32) && (kO 187 12 && (kO 187 12 && true))) <|
      bnd (sI S 208 (mIx (15 : Int32)) (S.1 187 43)) fun S1 =>
      grd (kI 208 (16 : Int32) && (kO 187 12 && (kO 187 12 && true))) <|
      bnd (sI S1 208 (mIx (16 : Int32)) (S1.1 187 44)) fun S2 =>
      some S2
    else
      grd (kI 208 v1 && (kI 209 v1 && (kO 187 12 && (kO 187 12 && true)))) <|
      bnd (sI S 208 (mIx v1) (S.1 209 (mIx v1))) fun S3 =>
      grd (kI 208 ((5 : Int32) + v1) && (kI 210 v1 && (kO 187 12 && (kO 187 12 && true)))) <|
      bnd (sI S3 208 (mIx ((5 : Int32) + v1)) (S3.1 210 (mIx v1))) fun S4 =>
      grd (kI 208 ((10 : Int32) + v1) && (kI 211 v1 && (kO 187 12 && (kO 187 12 && true)))) <|
      bnd (sI S4 208 (mIx ((10 : Int32) + v1)) (S4.1 211 (mIx v1))) fun S5 =>
      bnd (v1 + (1 : Int32)) fun x6 =>
      fX12_keep_2 k x6 S5
def fX12_keep (S : mT) : Option (mT) :=
  fX12_keep_2 mK (0 : Int32) S
def fX12_leaves (v1 : Int32) (S : mT) : Option (mT) :=
  bndV (fX12_load S) fun S1 =>
  grd (kI 209 v1 && (kI 209 v1 && (kO 187 12 && true))) <|
  bnd (sI S1 209 (mIx v1) ((S1.1 209 (mIx v1)) - (1 : Int32))) fun S2 =>
  bndV (fX12_notMoreHidden v1 S2) fun S3 =>
  bndV (fX12_keep S3) fun S4 =>
  some S4
def fX12_goes_17 (S : mT) : Option (Int32 × mT) :=
  some ((-1 : Int32), S)
def fX12_goes (v1 : Int32) (S : mT) : Option (Int32 × mT) :=
  bndC (fX12_isHouse v1 S) fun x2 S1 =>
  if x2 = 0 then
    fX12_goes_17 S1
  else
    grd (kI 208 v1 && (kO 187 12 && true)) <|
    if (S1.1 208 (mIx v1)) = 0 then
      fX12_goes_17 S1
    else
      bndV (fX12_act S1) fun S3 =>
      bndV (fX12_leaves v1 S3) fun S4 =>
      grd (kI 208 v1 && (kO 187 12 && true)) <|
      some ((S4.1 208 (mIx v1)), S4)
def fX12_headOf (v1 : Int32) (v2 : Int32) (S : mT) : Option (Int32 × mT) :=
  grd (kO 187 12 && true) <|
  some (((v1 >>> (((3 : Int32) * (((S.1 187 37) - (1 : Int32)) - v2)) &&& 31)) &&& (7 : Int32)), S)
def fX12_hide_22 (S : mT) : Option (Int32 × mT) :=
  some ((-1 : Int32), S)
def fX12_hide (v1 : Int32) (v2 : Int32) (S : mT) : Option (Int32 × mT) :=
  bndC (fX12_isHouse v1 S) fun x2 S1 =>
  if x2 = 0 then
    fX12_hide_22 S1
  else
    grd (kI 208 v1 && (kO 187 12 && true)) <|
    bndC (fX12_isIn v2 (0 : Int32) (S1.1 208 (mIx v1)) S1) fun x4 S3 =>
    if x4 = 0 then
      fX12_hide_22 S3
    else
      bndV (fX12_act S3) fun S5 =>
      grd (kI 208 ((5 : Int32) + v1) && (kO 187 12 && true)) <|
      bnd (S5.1 208 (mIx ((5 : Int32) + v1))) fun x6 =>
      grd (kI 208 ((5 : Int32) + v1) && (kO 187 12 && true)) <|
      bnd (sI S5 208 (mIx ((5 : Int32) + v1)) v2) fun S7 =>
      some (x6, S7)
def fX12_shows_19 (s0 : Int32) (S : mT) : Option (Int32 × mT) :=
  grd (mFit .boolean s0) (some (s0, S))
def fX12_shows (v1 : Int32) (S : mT) : Option (Int32 × mT) :=
  bndC (fX12_stonesOf v1 S) fun x2 S1 =>
  grd (kI 206 v1 && (kO 187 12 && true)) <|
  if (S1.1 206 (mIx v1)) ≤ x2 then
    fX12_shows_19 (0 : Int32) S1
  else
    fX12_shows_19 (1 : Int32) S1
def fX12_house (v1 : Int32) (v2 : Int32) (S : mT) : Option (Int32 × mT) :=
  bndC (fX12_isHouse v1 S) fun x2 S1 =>
  if x2 = 0 then
    some ((-1 : Int32), S1)
  else
    bndV (fX12_load S1) fun S3 =>
    if v2 = (0 : Int32) then
      grd (kI 205 v1 && (kO 187 12 && true)) <|
      some ((S3.1 205 (mIx v1)), S3)
    else
      if v2 = (1 : Int32) then
        grd (kI 209 v1 && (kO 187 12 && true)) <|
        some ((S3.1 209 (mIx v1)), S3)
      else
        if v2 = (2 : Int32) then
          grd (kI 210 v1 && (kO 187 12 && true)) <|
          some ((S3.1 210 (mIx v1)), S3)
        else
          if v2 = (3 : Int32) then
            grd (kI 211 v1 && (kO 187 12 && true)) <|
            some ((S3.1 211 (mIx v1)), S3)
          else
            if v2 = (4 : Int32) then
              grd (kI 206 v1 && (kO 187 12 && true)) <|
              some ((S3.1 206 (mIx v1)), S3)
            else
              if v2 = (5 : Int32) then
                grd (kI 207 v1 && (kO 187 12 && true)) <|
                some ((S3.1 207 (mIx v1)), S3)
              else
                if v2 = (6 : Int32) then
                  bndC (fX12_stonesOf v1 S3) fun x15 S14 =>
                  some (x15, S14)
                else
                  if v2 = (7 : Int32) then
                    bndC (fX12_shows v1 S3) fun x11 S10 =>
                    bndC (fX12_truth x11 S10) fun x13 S12 =>
                    some (x13, S12)
                  else
                    if v2 = (8 : Int32) then
                      grd (kI 211 v1 && (kO 187 12 && true)) <|
                      bndC (fX12_taxOf v1 (S3.1 211 (mIx v1)) S3) fun x9 S8 =>
                      some (x9, S8)
                    else
                      if v2 = (9 : Int32) then
                        bndC (fX12_stonesOf v1 S3) fun x5 S4 =>
                        bndC (fX12_taxOf v1 x5 S4) fun x7 S6 =>
                        some (x7, S6)
                      else
                        some ((-1 : Int32), S3)
def fX12_image_18 : Nat → Int32 → Int32 → mT → Option (Int32 × mT)
  | 0, _, _, _ => none
  | k + 1, v1, v2, S =>
    if (17 : Int32) ≤ v2 then
      grd (kI 208 (15 : Int32) && (kO 187 12 && true)) <|
      some ((S.1 208 (mIx (15 : Int32))), S)
    else
      grd (kO 187 12 && (kO 187 12 && true)) <|
      grd (kI 232 (((18 : Int32) * v1) + v2) && (kI 208 v2 && true)) <|
      bnd (sI S 232 (mIx (((18 : Int32) * v1) + v2)) (S.1 208 (mIx v2))) fun S4 =>
      bnd (v2 + (1 : Int32)) fun x5 =>
      fX12_image_18 k v1 x5 S4
def fX12_image (v1 : Int32) (S : mT) : Option (Int32 × mT) :=
  bndC (fX12_isBox v1 S) fun x2 S1 =>
  if x2 = 0 then
    some ((-1 : Int32), S1)
  else
    grd (kB 231 v1 && (kO 187 12 && true)) <|
    bnd (sI S1 231 (mIx v1) (kN 231 (1 : Int32))) fun S3 =>
    fX12_image_18 mK v1 (0 : Int32) S3
def fX12_isOwn_170 (s0 : Int32) (S : mT) : Option (Int32 × mT) :=
  grd (mFit .boolean s0) (some (s0, S))
def fX12_isOwn_165 (S : mT) : Option (Int32 × mT) :=
  fX12_isOwn_170 (1 : Int32) S
def fX12_isOwn (S : mT) : Option (Int32 × mT) :=
  grd (kO 187 12 && true) <|
  if (lg_cmp (S.2 187 9) (448546567013 : Int64)) = 0 then
    fX12_isOwn_165 S
  else
    grd (kO 187 12 && true) <|
    if (lg_cmp (S.2 187 9) (24948 : Int64)) = 0 then
      fX12_isOwn_165 S
    else
      grd (kO 187 12 && true) <|
      if (lg_cmp (S.2 187 9) (448377480307 : Int64)) = 0 then
        fX12_isOwn_165 S
      else
        grd (kO 187 12 && true) <|
        if (lg_cmp (S.2 187 9) (6971757 : Int64)) = 0 then
          fX12_isOwn_165 S
        else
          grd (kO 187 12 && true) <|
          if (lg_cmp (S.2 187 9) (448310438260 : Int64)) = 0 then
            fX12_isOwn_165 S
          else
            grd (kO 187 12 && true) <|
            if (lg_cmp (S.2 187 9) (1936746868 : Int64)) = 0 then
              fX12_isOwn_165 S
            else
              grd (kO 187 12 && true) <|
              if (lg_cmp (S.2 187 9) (7627128 : Int64)) = 0 then
                fX12_isOwn_165 S
              else
                grd (kO 187 12 && true) <|
                if (lg_cmp (S.2 187 9) (1735552887 : Int64)) = 0 then
                  fX12_isOwn_165 S
                else
                  grd (kO 187 12 && true) <|
                  if (lg_cmp (S.2 187 9) (1685217655 : Int64)) = 0 then
                    fX12_isOwn_165 S
                  else
                    grd (kO 187 12 && true) <|
                    if (lg_cmp (S.2 187 9) (114801865155950 : Int64)) = 0 then
                      fX12_isOwn_165 S
                    else
                      grd (kO 187 12 && true) <|
                      if (lg_cmp (S.2 187 9) (126943922906483 : Int64)) = 0 then
                        fX12_isOwn_165 S
                      else
                        grd (kO 187 12 && true) <|
                        if (lg_cmp (S.2 187 9) (2036687218 : Int64)) = 0 then
                          fX12_isOwn_165 S
                        else
                          grd (kO 187 12 && true) <|
                          if (lg_cmp (S.2 187 9) (6385252 : Int64)) = 0 then
                            fX12_isOwn_165 S
                          else
                            grd (kO 187 12 && true) <|
                            if (lg_cmp (S.2 187 9) (28530 : Int64)) = 0 then
                              fX12_isOwn_165 S
                            else
                              grd (kO 187 12 && true) <|
                              if (lg_cmp (S.2 187 9) (7237492 : Int64)) = 0 then
                                fX12_isOwn_165 S
                              else
                                fX12_isOwn_170 (0 : Int32) S
def fX12_isName_20 (s0 : Int32) (S : mT) : Option (Int32 × mT) :=
  grd (mFit .boolean s0) (some (s0, S))
def fX12_isName_19 (S : mT) : Option (Int32 × mT) :=
  fX12_isName_20 (0 : Int32) S
def fX12_isName (S : mT) : Option (Int32 × mT) :=
  grd (kO 187 12 && true) <|
  if (S.1 187 6) = (1 : Int32) then
    bndC (fX12_isOwn S) fun x2 S1 =>
    if x2 = 0 then
      fX12_isName_20 (1 : Int32) S1
    else
      fX12_isName_19 S1
  else
    fX12_isName_19 S
def fX12_isOtherSeats_36 (rc4 : Int32 → Int32 → mT → Option (Int32 × mT)) (v2 : Int32) (s0 : Int32) (S : mT) : Option (Int32 × mT) :=
  bnd (v2 + (1 : Int32)) fun x1 =>
  rc4 s0 x1 S
def fX12_isOtherSeats_31 (rc4 : Int32 → Int32 → mT → Option (Int32 × mT)) (v2 : Int32) (S : mT) : Option (Int32 × mT) :=
  fX12_isOtherSeats_36 rc4 v2 (1 : Int32) S
def fX12_isOtherSeats_4 : Nat → Int32 → Int32 → mT → Option (Int32 × mT)
  | 0, _, _, _ => none
  | k + 1, v1, v2, S =>
    grd (kO 187 12 && true) <|
    if (S.1 187 37) ≤ v2 then
      grd (mFit .boolean v1) (some (v1, S))
    else
      if v1 = 0 then
        grd (kI 219 v2 && (kO 187 12 && (kI 217 v2 && (kO 187 12 && true)))) <|
        if (S.1 217 (mIx v2)) = (S.1 219 (mIx v2)) then
          fX12_isOtherSeats_36 (fX12_isOtherSeats_4 k) v2 (0 : Int32) S
        else
          fX12_isOtherSeats_31 (fX12_isOtherSeats_4 k) v2 S
      else
        fX12_isOtherSeats_31 (fX12_isOtherSeats_4 k) v2 S
def fX12_isOtherSeats (S : mT) : Option (Int32 × mT) :=
  fX12_isOtherSeats_4 mK (0 : Int32) (0 : Int32) S
def fX12_keepSeats_2 : Nat → Int32 → mT → Option (mT)
  | 0, _, _ => none
  | k + 1, v1, S =>
    if (5 : Int32) ≤ v1 then
      some S
    else
      grd (kI 219 v1 && (kI 217 v1 && (kO 187 12 && (kO 187 12 && true)))) <|
      bnd (sI S 219 (mIx v1) (S.1 217 (mIx v1))) fun S1 =>
      bnd (v1 + (1 : Int32)) fun x2 =>
      fX12_keepSeats_2 k x2 S1
def fX12_keepSeats (S : mT) : Option (mT) :=
  fX12_keepSeats_2 mK (0 : Int32) S
def fX12_liarsOf_99 (rc6 : Int32 → Int32 → Int32 → Int32 → Int32 → mT → Option (Int32 × mT)) (rc62 : Int32 → Int32 → Int32 → Int32 → Int32 → Int32 → Int32 → mT → Option (Int32 × mT)) (v1 : Int32) (v2 : Int32) (v3 : Int32) (v4 : Int32) (v5 : Int32) (v6 : Int32) (v7 : Int32) (S : mT) : Option (Int32 × mT) :=
  bnd (v7 + (1 : Int32)) fun x8 =>
  rc62 v1 v2 v3 v4 v5 v6 x8 S
def fX12_liarsOf_142 (rc6 : Int32 → Int32 → Int32 → Int32 → Int32 → mT → Option (Int32 × mT)) (v1 : Int32) (v2 : Int32) (v3 : Int32) (v4 : Int32) (v5 : Int32) (S : mT) : Option (Int32 × mT) :=
  bnd (v5 + (1 : Int32)) fun x1 =>
  rc6 v1 v2 v3 v4 x1 S
def fX12_liarsOf_136 (rc6 : Int32 → Int32 → Int32 → Int32 → Int32 → mT → Option (Int32 × mT)) (v1 : Int32) (v2 : Int32) (v3 : Int32) (v5 : Int32) (s0 : Int32) (s1 : Int32) (S : mT) : Option (Int32 × mT) :=
  bndC (fX12_truth s0 S) fun x6 S5 =>
  bnd (s1 + x6) fun x7 =>
  fX12_liarsOf_142 rc6 v1 v2 v3 x7 v5 S5
def fX12_liarsOf_131 (rc6 : Int32 → Int32 → Int32 → Int32 → Int32 → mT → Option (Int32 × mT)) (v1 : Int32) (v2 : Int32) (v3 : Int32) (v5 : Int32) (s0 : Int32) (S : mT) : Option (Int32 × mT) :=
  fX12_liarsOf_136 rc6 v1 v2 v3 v5 (1 : Int32) s0 S
def fX12_liarsOf_62 (rc6 : Int32 → Int32 → Int32 → Int32 → Int32 → mT → Option (Int32 × mT)) : Nat → Int32 → Int32 → Int32 → Int32 → Int32 → Int32 → Int32 → mT → Option (Int32 × mT)
  | 0, _, _, _, _, _, _, _, _ => none
  | k + 1, v1, v2, v3, v4, v5, v6, v7, S =>
    grd (kO 187 12 && true) <|
    if (S.1 187 37) ≤ v7 then
      grd (kI 225 v5 && (kO 187 12 && true)) <|
      if v6 < (S.1 225 (mIx v5)) then
        fX12_liarsOf_131 rc6 v1 v2 v3 v5 v4 S
      else
        grd (kI 226 v5 && (kO 187 12 && true)) <|
        if v6 ≤ (S.1 226 (mIx v5)) then
          fX12_liarsOf_136 rc6 v1 v2 v3 v5 (0 : Int32) v4 S
        else
          fX12_liarsOf_131 rc6 v1 v2 v3 v5 v4 S
    else
      grd (kI 224 v5 && (kO 187 12 && true)) <|
      if (((S.1 224 (mIx v5)) >>> (v7 &&& 31)) &&& (1 : Int32)) = (1 : Int32) then
        bndC (fX12_headOf v1 v7 S) fun x3 S2 =>
        bnd (v6 + x3) fun x4 =>
        fX12_liarsOf_99 rc6 (fX12_liarsOf_62 rc6 k) v1 v2 v3 v4 v5 x4 v7 S2
      else
        fX12_liarsOf_99 rc6 (fX12_liarsOf_62 rc6 k) v1 v2 v3 v4 v5 v6 v7 S
def fX12_liarsOf_56 (rc6 : Int32 → Int32 → Int32 → Int32 → Int32 → mT → Option (Int32 × mT)) (v1 : Int32) (v2 : Int32) (v3 : Int32) (v4 : Int32) (v5 : Int32) (S : mT) : Option (Int32 × mT) :=
  fX12_liarsOf_62 rc6 mK v1 v2 v3 v4 v5 (0 : Int32) (0 : Int32) S
def fX12_liarsOf_148 (v4 : Int32) (S : mT) : Option (Int32 × mT) :=
  some (v4, S)
def fX12_liarsOf_6 : Nat → Int32 → Int32 → Int32 → Int32 → Int32 → mT → Option (Int32 × mT)
  | 0, _, _, _, _, _, _ => none
  | k + 1, v1, v2, v3, v4, v5, S =>
    grd (kO 187 12 && true) <|
    if (S.1 187 66) ≤ v5 then
      fX12_liarsOf_148 v4 S
    else
      if v3 < v4 then
        fX12_liarsOf_148 v4 S
      else
        grd (kI 227 v5 && (kO 187 12 && true)) <|
        if v2 < (S.1 227 (mIx v5)) then
          fX12_liarsOf_142 (fX12_liarsOf_6 k) v1 v2 v3 v4 v5 S
        else
          grd (kI 228 v5 && (kO 187 12 && true)) <|
          if (S.1 228 (mIx v5)) < 0 then
            fX12_liarsOf_56 (fX12_liarsOf_6 k) v1 v2 v3 v4 v5 S
          else
            grd (kI 228 v5 && (kO 187 12 && true)) <|
            if v2 < (S.1 228 (mIx v5)) then
              fX12_liarsOf_56 (fX12_liarsOf_6 k) v1 v2 v3 v4 v5 S
            else
              fX12_liarsOf_142 (fX12_liarsOf_6 k) v1 v2 v3 v4 v5 S
def fX12_liarsOf (v1 : Int32) (v2 : Int32) (v3 : Int32) (S : mT) : Option (Int32 × mT) :=
  fX12_liarsOf_6 mK v1 v2 v3 (0 : Int32) (0 : Int32) S
def fX12_rowsOf_4 : Nat → Int32 → Int32 → mT → Option (Int32 × mT)
  | 0, _, _, _ => none
  | k + 1, v1, v2, S =>
    grd (kO 187 12 && true) <|
    if (S.1 187 37) ≤ v2 then
      some (v1, S)
    else
      bnd (v1 * (8 : Int32)) fun x1 =>
      bnd (v2 + (1 : Int32)) fun x2 =>
      fX12_rowsOf_4 k x1 x2 S
def fX12_rowsOf (S : mT) : Option (Int32 × mT) :=
  fX12_rowsOf_4 mK (1 : Int32) (0 : Int32) S
def fX12_layTruths_101 (rc33 : Int32 → Int32 → Int32 → mT → Option (mT)) (v1 : Int32) (v2 : Int32) (v3 : Int32) (S : mT) : Option (mT) :=
  bnd (v3 + (1 : Int32)) fun x13 =>
  rc33 v1 v2 x13 S
def fX12_layTruths_64 (rc33 : Int32 → Int32 → Int32 → mT → Option (mT)) : Nat → Int32 → Int32 → Int32 → Int32 → mT → Option (mT)
  | 0, _, _, _, _, _ => none
  | k + 1, v1, v2, v3, v4, S =>
    grd (kO 187 12 && true) <|
    if (S.1 187 37) ≤ v4 then
      fX12_layTruths_101 rc33 v1 v2 v3 S
    else
      grd (kO 187 12 && true) <|
      bndC (fX12_headOf v3 v4 S) fun x10 S9 =>
      grd (kI 229 (((8 : Int32) * v4) + x10) && (kI 229 (((8 : Int32) * v4) + x10) && true)) <|
      bnd (sI S9 229 (mIx (((8 : Int32) * v4) + x10)) ((S9.1 229 (mIx (((8 : Int32) * v4) + x10))) + (1 : Int32))) fun S11 =>
      bnd (v4 + (1 : Int32)) fun x12 =>
      fX12_layTruths_64 rc33 k v1 v2 v3 x12 S11
def fX12_layTruths_33 : Nat → Int32 → Int32 → Int32 → mT → Option (mT)
  | 0, _, _, _, _ => none
  | k + 1, v1, v2, v3, S =>
    if v2 ≤ v3 then
      some S
    else
      bndC (fX12_liarsOf v3 v1 (0 : Int32) S) fun x7 S6 =>
      if x7 ≤ 0 then
        grd (kO 187 12 && (kO 187 12 && true)) <|
        bnd (sI S6 187 69 ((S6.1 187 69) + (1 : Int32))) fun S8 =>
        fX12_layTruths_64 (fX12_layTruths_33 k) mK v1 v2 v3 (0 : Int32) S8
      else
        fX12_layTruths_101 (fX12_layTruths_33 k) v1 v2 v3 S6
def fX12_layTruths_2 : Nat → Int32 → Int32 → mT → Option (mT)
  | 0, _, _, _ => none
  | k + 1, v1, v2, S =>
    if (40 : Int32) ≤ v2 then
      grd (kO 187 12 && true) <|
      bnd (sI S 187 69 (0 : Int32)) fun S1 =>
      bndC (fX12_rowsOf S1) fun x3 S2 =>
      fX12_layTruths_33 mK v1 x3 (0 : Int32) S2
    else
      grd (kI 229 v2 && (kO 187 12 && true)) <|
      bnd (sI S 229 (mIx v2) (0 : Int32)) fun S4 =>
      bnd (v2 + (1 : Int32)) fun x5 =>
      fX12_layTruths_2 k v1 x5 S4
def fX12_layTruths (v1 : Int32) (S : mT) : Option (mT) :=
  fX12_layTruths_2 mK v1 (0 : Int32) S
def fX12_mostOf_40 (rc4 : Int32 → Int32 → Int32 → mT → Option (Int32 × mT)) (v1 : Int32) (v3 : Int32) (s0 : Int32) (S : mT) : Option (Int32 × mT) :=
  bnd (v3 + (1 : Int32)) fun x1 =>
  rc4 v1 s0 x1 S
def fX12_mostOf_4 : Nat → Int32 → Int32 → Int32 → mT → Option (Int32 × mT)
  | 0, _, _, _, _ => none
  | k + 1, v1, v2, v3, S =>
    if (7 : Int32) < v3 then
      some (v2, S)
    else
      grd (kI 229 (((8 : Int32) * v1) + v3) && (kO 187 12 && true)) <|
      if (S.1 229 (mIx (((8 : Int32) * v1) + v3))) ≤ v2 then
        fX12_mostOf_40 (fX12_mostOf_4 k) v1 v3 v2 S
      else
        grd (kI 229 (((8 : Int32) * v1) + v3) && (kO 187 12 && true)) <|
        fX12_mostOf_40 (fX12_mostOf_4 k) v1 v3 (S.1 229 (mIx (((8 : Int32) * v1) + v3))) S
def fX12_mostOf (v1 : Int32) (S : mT) : Option (Int32 × mT) :=
  fX12_mostOf_4 mK v1 (0 : Int32) (0 : Int32) S
def fX12_knock_16 (S : mT) : Option (Int32 × mT) :=
  some ((-1 : Int32), S)
def fX12_knock_66 (rc37 : Int32 → Int32 → Int32 → mT → Option (Int32 × mT)) (v1 : Int32) (v4 : Int32) (s0 : Int32) (S : mT) : Option (Int32 × mT) :=
  bnd (v4 + (1 : Int32)) fun x10 =>
  rc37 v1 s0 x10 S
def fX12_knock_86 (s0 : Int32) (S : mT) : Option (Int32 × mT) :=
  some (s0, S)
def fX12_knock_37 : Nat → Int32 → Int32 → Int32 → mT → Option (Int32 × mT)
  | 0, _, _, _, _ => none
  | k + 1, v1, v3, v4, S =>
    grd (kO 187 12 && true) <|
    if (S.1 187 37) ≤ v4 then
      if v1 = 0 then
        fX12_knock_86 v3 S
      else
        bndC (fX12_mostOf v3 S) fun x5 S4 =>
        fX12_knock_86 x5 S4
    else
      bndC (fX12_mostOf v4 S) fun x7 S6 =>
      bndC (fX12_mostOf v3 S6) fun x9 S8 =>
      if x9 ≤ x7 then
        fX12_knock_66 (fX12_knock_37 k) v1 v4 v3 S8
      else
        fX12_knock_66 (fX12_knock_37 k) v1 v4 v4 S8
def fX12_knock (v1 : Int32) (v2 : Int32) (S : mT) : Option (Int32 × mT) :=
  bndC (fX12_isIn v1 (0 : Int32) (1 : Int32) S) fun x2 S1 =>
  if x2 = 0 then
    fX12_knock_16 S1
  else
    grd (kO 187 12 && true) <|
    if (S1.1 187 37) = 0 then
      fX12_knock_16 S1
    else
      bndV (fX12_layTruths v2 S1) fun S3 =>
      grd (kO 187 12 && true) <|
      if (S3.1 187 69) = 0 then
        some ((-1 : Int32), S3)
      else
        fX12_knock_37 mK v1 (0 : Int32) (1 : Int32) S3
def fX12_later_23 (S : mT) : Option (Int32 × mT) :=
  some ((-1 : Int32), S)
def fX12_later (v1 : Int32) (S : mT) : Option (Int32 × mT) :=
  if v1 < 0 then
    fX12_later_23 S
  else
    if (1000 : Int32) < v1 then
      fX12_later_23 S
    else
      grd (kO 187 12 && true) <|
      if ((S.1 187 67) + v1) ≤ (100000 : Int32) then
        grd (kO 187 12 && (kO 187 12 && true)) <|
        bnd (sI S 187 67 ((S.1 187 67) + v1)) fun S1 =>
        grd (kO 187 12 && true) <|
        some ((S1.1 187 67), S1)
      else
        fX12_later_23 S
def fX12_layCounters_76 (rc37 : Int32 → Int32 → mT → Option (Int32 × mT)) (v4 : Int32) (s0 : Int32) (s1 : Int32) (S : mT) : Option (Int32 × mT) :=
  bndC (fX12_truth s0 S) fun x6 S5 =>
  bnd (s1 + x6) fun x7 =>
  bnd (v4 + (1 : Int32)) fun x8 =>
  rc37 x7 x8 S5
def fX12_layCounters_37 : Nat → Int32 → Int32 → mT → Option (Int32 × mT)
  | 0, _, _, _ => none
  | k + 1, v3, v4, S =>
    grd (kO 187 12 && true) <|
    if (S.1 187 37) ≤ v4 then
      some (v3, S)
    else
      grd (kI 216 v4 && (kO 187 12 && true)) <|
      if (S.1 216 (mIx v4)) ≤ v3 then
        grd (kI 216 v4 && (kO 187 12 && true)) <|
        if (S.1 216 (mIx v4)) = v3 then
          fX12_layCounters_76 (fX12_layCounters_37 k) v4 (1 : Int32) v3 S
        else
          fX12_layCounters_76 (fX12_layCounters_37 k) v4 (0 : Int32) v3 S
      else
        some ((-1 : Int32), S)
def fX12_layCounters_9 : Nat → Int32 → Int32 → mT → Option (Int32 × mT)
  | 0, _, _, _ => none
  | k + 1, v2, v3, S =>
    if v3 < 0 then
      fX12_layCounters_37 mK (0 : Int32) (0 : Int32) S
    else
      grd (kI 216 v3 && (decide (¬ (5 : Int32) = 0) && (kO 187 12 && true))) <|
      bnd (sI S 216 (mIx v3) (v2 - v2 / (5 : Int32) * (5 : Int32))) fun S2 =>
      grd (decide (¬ (5 : Int32) = 0) && true) <|
      bnd (v2 / (5 : Int32)) fun x3 =>
      bnd (v3 + (-1 : Int32)) fun x4 =>
      fX12_layCounters_9 k x3 x4 S2
def fX12_layCounters (v1 : Int32) (S : mT) : Option (Int32 × mT) :=
  grd (kO 187 12 && true) <|
  bnd ((S.1 187 37) - (1 : Int32)) fun x1 =>
  fX12_layCounters_9 mK v1 x1 S
def fX12_laySeats_90 (rc11 : Int32 → Int32 → Int32 → Int32 → Int32 → mT → Option (mT)) (v1 : Int32) (v2 : Int32) (v3 : Int32) (v4 : Int32) (v5 : Int32) (s0 : Int32) (s1 : Int32) (S : mT) : Option (mT) :=
  grd (kI 218 s1 && true) <|
  bnd (sI S 218 (mIx s1) s0) fun S7 =>
  grd (kI 217 v5 && (kO 187 12 && true)) <|
  bnd (v4 - (S7.1 217 (mIx v5))) fun x8 =>
  bnd (v5 + (1 : Int32)) fun x9 =>
  rc11 v1 v2 v3 x8 x9 S7
def fX12_laySeats_89 (rc11 : Int32 → Int32 → Int32 → Int32 → Int32 → mT → Option (mT)) (v1 : Int32) (v2 : Int32) (v3 : Int32) (v4 : Int32) (v5 : Int32) (s0 : Int32) (S : mT) : Option (mT) :=
  fX12_laySeats_90 rc11 v1 v2 v3 v4 v5 (-1 : Int32) s0 S
def fX12_laySeats_55 (rc11 : Int32 → Int32 → Int32 → Int32 → Int32 → mT → Option (mT)) (v1 : Int32) (v2 : Int32) (v3 : Int32) (v4 : Int32) (v5 : Int32) (s0 : Int32) (s1 : Int32) (S : mT) : Option (mT) :=
  grd (kI 217 s1 && true) <|
  bnd (sI S 217 (mIx s1) s0) fun S3 =>
  grd (kO 187 12 && true) <|
  if v3 ≤ 0 then
    fX12_laySeats_89 rc11 v1 v2 v3 v4 v5 v5 S3
  else
    grd (kO 187 12 && true) <|
    if (S3.1 187 37) ≤ v5 then
      fX12_laySeats_89 rc11 v1 v2 v3 v4 v5 v5 S3
    else
      grd (decide (¬ v3 = 0) && (kI 211 v5 && (kO 187 12 && true))) <|
      fX12_laySeats_90 rc11 v1 v2 v3 v4 v5 (((S3.1 211 (mIx v5)) * v1) - ((S3.1 211 (mIx v5)) * v1) / v3 * v3) v5 S3
def fX12_laySeats_54 (rc11 : Int32 → Int32 → Int32 → Int32 → Int32 → mT → Option (mT)) (v1 : Int32) (v2 : Int32) (v3 : Int32) (v4 : Int32) (v5 : Int32) (s0 : Int32) (S : mT) : Option (mT) :=
  fX12_laySeats_55 rc11 v1 v2 v3 v4 v5 (0 : Int32) s0 S
def fX12_laySeats_198 (rc109 : Int32 → Int32 → Int32 → mT → Option (mT)) (rc124 : Int32 → Int32 → Int32 → Int32 → Int32 → mT → Option (mT)) (v2 : Int32) (v3 : Int32) (v4 : Int32) (v5 : Int32) (v6 : Int32) (S : mT) : Option (mT) :=
  bnd (v6 + (1 : Int32)) fun x10 =>
  rc124 v2 v3 v4 v5 x10 S
def fX12_laySeats_194 (rc109 : Int32 → Int32 → Int32 → mT → Option (mT)) (rc124 : Int32 → Int32 → Int32 → Int32 → Int32 → mT → Option (mT)) (v2 : Int32) (v3 : Int32) (v4 : Int32) (v6 : Int32) (S : mT) : Option (mT) :=
  fX12_laySeats_198 rc109 rc124 v2 v3 v4 v6 v6 S
def fX12_laySeats_124 (rc109 : Int32 → Int32 → Int32 → mT → Option (mT)) : Nat → Int32 → Int32 → Int32 → Int32 → Int32 → mT → Option (mT)
  | 0, _, _, _, _, _, _ => none
  | k + 1, v2, v3, v4, v5, v6, S =>
    grd (kO 187 12 && true) <|
    if (S.1 187 37) ≤ v6 then
      grd (kI 217 v5 && (kI 217 v5 && (kO 187 12 && true))) <|
      bnd (sI S 217 (mIx v5) ((S.1 217 (mIx v5)) + (1 : Int32))) fun S4 =>
      grd (kI 218 v5 && (kO 187 12 && true)) <|
      bnd (sI S4 218 (mIx v5) (-1 : Int32)) fun S5 =>
      bnd (v4 + (-1 : Int32)) fun x6 =>
      rc109 v2 v3 x6 S5
    else
      if v2 = 0 then
        grd (kI 218 v5 && (kO 187 12 && (kI 218 v6 && (kO 187 12 && true)))) <|
        if (S.1 218 (mIx v6)) ≤ (S.1 218 (mIx v5)) then
          fX12_laySeats_198 rc109 (fX12_laySeats_124 rc109 k) v2 v3 v4 v5 v6 S
        else
          fX12_laySeats_194 rc109 (fX12_laySeats_124 rc109 k) v2 v3 v4 v6 S
      else
        grd (kI 217 v5 && (kO 187 12 && (kI 211 v6 && (kO 187 12 && true)))) <|
        grd (kI 217 v6 && (kO 187 12 && (kI 211 v5 && (kO 187 12 && true)))) <|
        if ((S.1 211 (mIx v6)) * ((S.1 217 (mIx v5)) + (1 : Int32))) ≤ ((S.1 211 (mIx v5)) * ((S.1 217 (mIx v6)) + (1 : Int32))) then
          fX12_laySeats_198 rc109 (fX12_laySeats_124 rc109 k) v2 v3 v4 v5 v6 S
        else
          fX12_laySeats_194 rc109 (fX12_laySeats_124 rc109 k) v2 v3 v4 v6 S
def fX12_laySeats_229 (S : mT) : Option (mT) :=
  some S
def fX12_laySeats_109 : Nat → Int32 → Int32 → Int32 → mT → Option (mT)
  | 0, _, _, _, _ => none
  | k + 1, v2, v3, v4, S =>
    if v4 ≤ 0 then
      fX12_laySeats_229 S
    else
      if v3 ≤ 0 then
        fX12_laySeats_229 S
      else
        fX12_laySeats_124 (fX12_laySeats_109 k) mK v2 v3 v4 (0 : Int32) (1 : Int32) S
def fX12_laySeats_11 : Nat → Int32 → Int32 → Int32 → Int32 → Int32 → mT → Option (mT)
  | 0, _, _, _, _, _, _ => none
  | k + 1, v1, v2, v3, v4, v5, S =>
    if (5 : Int32) ≤ v5 then
      fX12_laySeats_109 mK v2 v3 v4 S
    else
      grd (kO 187 12 && true) <|
      if v2 = 0 then
        if v3 ≤ 0 then
          fX12_laySeats_54 (fX12_laySeats_11 k) v1 v2 v3 v4 v5 v5 S
        else
          grd (kO 187 12 && true) <|
          if (S.1 187 37) ≤ v5 then
            fX12_laySeats_54 (fX12_laySeats_11 k) v1 v2 v3 v4 v5 v5 S
          else
            grd (decide (¬ v3 = 0) && (kI 211 v5 && (kO 187 12 && true))) <|
            fX12_laySeats_55 (fX12_laySeats_11 k) v1 v2 v3 v4 v5 (((S.1 211 (mIx v5)) * v1) / v3) v5 S
      else
        fX12_laySeats_54 (fX12_laySeats_11 k) v1 v2 v3 v4 v5 v5 S
def fX12_laySeats (v1 : Int32) (v2 : Int32) (S : mT) : Option (mT) :=
  bndC (fX12_allBowls S) fun x2 S1 =>
  fX12_laySeats_11 mK v1 v2 x2 v1 (0 : Int32) S1
def fX12_layTaxes_71 (rc6 : Int32 → mT → Option (mT)) (rc16 : Int32 → Int32 → mT → Option (mT)) (v1 : Int32) (v2 : Int32) (s0 : Int32) (s1 : Int32) (S : mT) : Option (mT) :=
  grd (kI 213 s1 && true) <|
  bnd (sI S 213 (mIx s1) s0) fun S10 =>
  bnd (v2 + (1 : Int32)) fun x11 =>
  rc16 v1 x11 S10
def fX12_layTaxes_57 (rc6 : Int32 → mT → Option (mT)) (rc16 : Int32 → Int32 → mT → Option (mT)) (v1 : Int32) (v2 : Int32) (s0 : Int32) (S : mT) : Option (mT) :=
  fX12_layTaxes_71 rc6 rc16 v1 v2 (-1 : Int32) s0 S
def fX12_layTaxes_16 (rc6 : Int32 → mT → Option (mT)) : Nat → Int32 → Int32 → mT → Option (mT)
  | 0, _, _, _ => none
  | k + 1, v1, v2, S =>
    if (7 : Int32) < v2 then
      bnd (v1 + (1 : Int32)) fun x2 =>
      rc6 x2 S
    else
      grd (kI 210 v1 && (kO 187 12 && true)) <|
      bnd (sI S 210 (mIx v1) v2) fun S3 =>
      grd (kO 187 12 && (kO 187 12 && true)) <|
      grd (kI 209 v1 && true) <|
      if (S3.1 209 (mIx v1)) < v2 then
        fX12_layTaxes_57 rc6 (fX12_layTaxes_16 rc6 k) v1 v2 (((8 : Int32) * v1) + v2) S3
      else
        bndC (fX12_shows v1 S3) fun x5 S4 =>
        if x5 = 0 then
          bndC (fX12_stonesOf v1 S4) fun x7 S6 =>
          bndC (fX12_taxOf v1 x7 S6) fun x9 S8 =>
          fX12_layTaxes_71 rc6 (fX12_layTaxes_16 rc6 k) v1 v2 x9 (((8 : Int32) * v1) + v2) S8
        else
          fX12_layTaxes_57 rc6 (fX12_layTaxes_16 rc6 k) v1 v2 (((8 : Int32) * v1) + v2) S4
def fX12_layTaxes_6 : Nat → Int32 → mT → Option (mT)
  | 0, _, _ => none
  | k + 1, v1, S =>
    grd (kO 187 12 && true) <|
    if (S.1 187 37) ≤ v1 then
      some S
    else
      fX12_layTaxes_16 (fX12_layTaxes_6 k) mK v1 (0 : Int32) S
def fX12_layTaxes (S : mT) : Option (mT) :=
  bndV (fX12_load S) fun S1 =>
  fX12_layTaxes_6 mK (0 : Int32) S1
def fX12_least_76 (rc8 : Int32 → Int32 → mT → Option (Int32 × mT)) (rc21 : Int32 → Int32 → Int32 → Int32 → mT → Option (Int32 × mT)) (v1 : Int32) (v2 : Int32) (v3 : Int32) (v4 : Int32) (S : mT) : Option (Int32 × mT) :=
  bnd (v4 + (1 : Int32)) fun x4 =>
  rc21 v1 v2 v3 x4 S
def fX12_least_63 (rc8 : Int32 → Int32 → mT → Option (Int32 × mT)) (rc21 : Int32 → Int32 → Int32 → Int32 → mT → Option (Int32 × mT)) (v1 : Int32) (v2 : Int32) (v4 : Int32) (S : mT) : Option (Int32 × mT) :=
  grd (kI 213 (((8 : Int32) * v2) + v4) && (kO 187 12 && true)) <|
  bnd (S.1 213 (mIx (((8 : Int32) * v2) + v4))) fun x5 =>
  fX12_least_76 rc8 rc21 v1 v2 x5 v4 S
def fX12_least_21 (rc8 : Int32 → Int32 → mT → Option (Int32 × mT)) : Nat → Int32 → Int32 → Int32 → Int32 → mT → Option (Int32 × mT)
  | 0, _, _, _, _, _ => none
  | k + 1, v1, v2, v3, v4, S =>
    if (7 : Int32) < v4 then
      if 0 ≤ v3 then
        bnd (v1 + v3) fun x2 =>
        bnd (v2 + (1 : Int32)) fun x3 =>
        rc8 x2 x3 S
      else
        some ((-1 : Int32), S)
    else
      grd (kI 213 (((8 : Int32) * v2) + v4) && (kO 187 12 && true)) <|
      if (S.1 213 (mIx (((8 : Int32) * v2) + v4))) < 0 then
        fX12_least_76 rc8 (fX12_least_21 rc8 k) v1 v2 v3 v4 S
      else
        if v3 < 0 then
          fX12_least_63 rc8 (fX12_least_21 rc8 k) v1 v2 v4 S
        else
          grd (kI 213 (((8 : Int32) * v2) + v4) && (kO 187 12 && true)) <|
          if v3 ≤ (S.1 213 (mIx (((8 : Int32) * v2) + v4))) then
            fX12_least_76 rc8 (fX12_least_21 rc8 k) v1 v2 v3 v4 S
          else
            fX12_least_63 rc8 (fX12_least_21 rc8 k) v1 v2 v4 S
def fX12_least_8 : Nat → Int32 → Int32 → mT → Option (Int32 × mT)
  | 0, _, _, _ => none
  | k + 1, v1, v2, S =>
    grd (kO 187 12 && true) <|
    if (S.1 187 37) ≤ v2 then
      some (v1, S)
    else
      fX12_least_21 (fX12_least_8 k) mK v1 v2 (-1 : Int32) (0 : Int32) S
def fX12_least (S : mT) : Option (Int32 × mT) :=
  bndV (fX12_layTaxes S) fun S1 =>
  fX12_least_8 mK (0 : Int32) (0 : Int32) S1
def fX12_taxOfRow_17 : Nat → Int32 → Int32 → Int32 → mT → Option (Int32 × mT)
  | 0, _, _, _, _ => none
  | k + 1, v2, v3, v4, S =>
    if v4 < 0 then
      some (v3, S)
    else
      grd (kI 214 v4 && (decide (¬ (8 : Int32) = 0) && (kO 187 12 && true))) <|
      bnd (sI S 214 (mIx v4) (v2 - v2 / (8 : Int32) * (8 : Int32))) fun S3 =>
      grd (decide (¬ (8 : Int32) = 0) && true) <|
      bnd (v2 / (8 : Int32)) fun x4 =>
      grd (kI 214 v4 && (kO 187 12 && (kO 187 12 && true))) <|
      grd (kI 213 (((8 : Int32) * v4) + (S3.1 214 (mIx v4))) && true) <|
      bnd (S3.1 213 (mIx (((8 : Int32) * v4) + (S3.1 214 (mIx v4))))) fun x5 =>
      if 0 ≤ x5 then
        bnd (v3 + x5) fun x6 =>
        grd (kO 187 12 && (kI 214 v4 && (kO 187 12 && (kO 187 12 && true)))) <|
        bnd (sI S3 187 52 ((S3.1 187 52) + (S3.1 214 (mIx v4)))) fun S7 =>
        bnd (v4 + (-1 : Int32)) fun x8 =>
        fX12_taxOfRow_17 k x4 x6 x8 S7
      else
        some ((-1 : Int32), S3)
def fX12_taxOfRow (v1 : Int32) (S : mT) : Option (Int32 × mT) :=
  grd (kO 187 12 && true) <|
  bnd (sI S 187 52 (0 : Int32)) fun S1 =>
  grd (kO 187 12 && true) <|
  bnd ((S1.1 187 37) - (1 : Int32)) fun x2 =>
  fX12_taxOfRow_17 mK v1 (0 : Int32) x2 S1
def fX12_leave_117 (rc32 : Int32 → Int32 → Int32 → Int32 → mT → Option (Int32 × mT)) (v1 : Int32) (v2 : Int32) (v3 : Int32) (v4 : Int32) (S : mT) : Option (Int32 × mT) :=
  bnd (v4 + (1 : Int32)) fun x9 =>
  rc32 v1 v2 v3 x9 S
def fX12_leave_80 (rc32 : Int32 → Int32 → Int32 → Int32 → mT → Option (Int32 × mT)) : Nat → Int32 → Int32 → Int32 → Int32 → Int32 → mT → Option (Int32 × mT)
  | 0, _, _, _, _, _, _ => none
  | k + 1, v1, v2, v3, v4, v6, S =>
    grd (kO 187 12 && true) <|
    if (S.1 187 37) ≤ v6 then
      grd (kO 187 12 && (kO 187 12 && true)) <|
      bnd (sI S 187 51 (S.1 187 37)) fun S11 =>
      fX12_leave_117 rc32 v1 v2 v3 v4 S11
    else
      grd (kI 215 v6 && (kI 214 v6 && (kO 187 12 && (kO 187 12 && true)))) <|
      bnd (sI S 215 (mIx v6) (S.1 214 (mIx v6))) fun S12 =>
      bnd (v6 + (1 : Int32)) fun x13 =>
      fX12_leave_80 rc32 k v1 v2 v3 v4 x13 S12
def fX12_leave_72 (rc32 : Int32 → Int32 → Int32 → Int32 → mT → Option (Int32 × mT)) (v1 : Int32) (v3 : Int32) (v4 : Int32) (S : mT) : Option (Int32 × mT) :=
  grd (kO 187 12 && true) <|
  bnd (S.1 187 52) fun x10 =>
  fX12_leave_80 rc32 mK v1 x10 v3 v4 (0 : Int32) S
def fX12_leave_32 : Nat → Int32 → Int32 → Int32 → Int32 → mT → Option (Int32 × mT)
  | 0, _, _, _, _, _ => none
  | k + 1, v1, v2, v3, v4, S =>
    if v3 ≤ v4 then
      some (v2, S)
    else
      bndC (fX12_taxOfRow v4 S) fun x8 S7 =>
      if x8 < 0 then
        fX12_leave_117 (fX12_leave_32 k) v1 v2 v3 v4 S7
      else
        if v1 < x8 then
          fX12_leave_117 (fX12_leave_32 k) v1 v2 v3 v4 S7
        else
          if v2 < 0 then
            fX12_leave_72 (fX12_leave_32 k) v1 v3 v4 S7
          else
            grd (kO 187 12 && true) <|
            if (S7.1 187 52) < v2 then
              fX12_leave_72 (fX12_leave_32 k) v1 v3 v4 S7
            else
              fX12_leave_117 (fX12_leave_32 k) v1 v2 v3 v4 S7
def fX12_leave (v1 : Int32) (S : mT) : Option (Int32 × mT) :=
  grd (kO 187 12 && true) <|
  bnd (sI S 187 51 (0 : Int32)) fun S1 =>
  bndC (fX12_isIn v1 (0 : Int32) (9999 : Int32) S1) fun x3 S2 =>
  if x3 = 0 then
    some ((-1 : Int32), S2)
  else
    bndV (fX12_layTaxes S2) fun S4 =>
    bndC (fX12_rowsOf S4) fun x6 S5 =>
    fX12_leave_32 mK v1 (-1 : Int32) x6 (0 : Int32) S5
def fX12_liars_46 (rc14 : Int32 → Int32 → Int32 → Int32 → Int32 → mT → Option (Int32 × mT)) (v1 : Int32) (v2 : Int32) (v3 : Int32) (v4 : Int32) (v5 : Int32) (S : mT) : Option (Int32 × mT) :=
  bnd (v5 + (1 : Int32)) fun x10 =>
  rc14 v1 v2 v3 v4 x10 S
def fX12_liars_55 : Nat → Int32 → Int32 → Int32 → mT → Option (Int32 × mT)
  | 0, _, _, _, _ => none
  | k + 1, v2, v3, v5, S =>
    grd (kO 187 12 && true) <|
    if (S.1 187 37) ≤ v5 then
      grd (kO 187 12 && (kO 187 12 && true)) <|
      bnd (sI S 187 51 (S.1 187 37)) fun S5 =>
      some (v2, S5)
    else
      grd (kO 187 12 && true) <|
      bndC (fX12_headOf v3 v5 S) fun x7 S6 =>
      grd (kI 215 v5 && true) <|
      bnd (sI S6 215 (mIx v5) x7) fun S8 =>
      bnd (v5 + (1 : Int32)) fun x9 =>
      fX12_liars_55 k v2 v3 x9 S8
def fX12_liars_14 : Nat → Int32 → Int32 → Int32 → Int32 → Int32 → mT → Option (Int32 × mT)
  | 0, _, _, _, _, _, _ => none
  | k + 1, v1, v2, v3, v4, v5, S =>
    if v4 ≤ v5 then
      fX12_liars_55 mK v2 v3 (0 : Int32) S
    else
      bndC (fX12_liarsOf v5 v1 v2 S) fun x4 S3 =>
      if x4 < v2 then
        fX12_liars_46 (fX12_liars_14 k) v1 x4 v5 v4 v5 S3
      else
        fX12_liars_46 (fX12_liars_14 k) v1 v2 v3 v4 v5 S3
def fX12_liars (v1 : Int32) (S : mT) : Option (Int32 × mT) :=
  bndC (fX12_rowsOf S) fun x2 S1 =>
  fX12_liars_14 mK v1 (31 : Int32) (0 : Int32) x2 (0 : Int32) S1
def fX12_lies_24 (s0 : Int32) (S : mT) : Option (Int32 × mT) :=
  some (s0, S)
def fX12_lies (v1 : Int32) (S : mT) : Option (Int32 × mT) :=
  grd (kO 187 12 && true) <|
  bndC (fX12_isIn v1 (0 : Int32) ((S.1 187 51) - (1 : Int32)) S) fun x2 S1 =>
  if x2 = 0 then
    fX12_lies_24 (-1 : Int32) S1
  else
    grd (kI 215 v1 && (kO 187 12 && true)) <|
    fX12_lies_24 (S1.1 215 (mIx v1)) S1
def fX12_loss_73 (s0 : Int32) (S : mT) : Option (Int32 × mT) :=
  some (s0, S)
def fX12_loss_41 (rc23 : Int32 → Int32 → mT → Option (Int32 × mT)) : Nat → Int32 → Int32 → Int32 → mT → Option (Int32 × mT)
  | 0, _, _, _, _ => none
  | k + 1, v1, v2, v3, S =>
    grd (kO 187 12 && true) <|
    if (S.1 187 37) ≤ v3 then
      bnd (v2 + (1 : Int32)) fun x7 =>
      rc23 v1 x7 S
    else
      grd (kI 219 v3 && (kO 187 12 && (kI 217 v3 && (kO 187 12 && true)))) <|
      if (S.1 219 (mIx v3)) ≤ (S.1 217 (mIx v3)) then
        bnd (v3 + (1 : Int32)) fun x8 =>
        fX12_loss_41 rc23 k v1 v2 x8 S
      else
        if v1 = 0 then
          fX12_loss_73 v2 S
        else
          fX12_loss_73 v3 S
def fX12_loss_23 : Nat → Int32 → Int32 → mT → Option (Int32 × mT)
  | 0, _, _, _ => none
  | k + 1, v1, v2, S =>
    if (20 : Int32) < v2 then
      some ((-1 : Int32), S)
    else
      bndV (fX12_keepSeats S) fun S5 =>
      bndV (fX12_laySeats v2 (0 : Int32) S5) fun S6 =>
      fX12_loss_41 (fX12_loss_23 k) mK v1 v2 (0 : Int32) S6
def fX12_loss (v1 : Int32) (S : mT) : Option (Int32 × mT) :=
  bndC (fX12_isIn v1 (0 : Int32) (1 : Int32) S) fun x2 S1 =>
  if x2 = 0 then
    some ((-1 : Int32), S1)
  else
    bndV (fX12_load S1) fun S3 =>
    bndV (fX12_laySeats (1 : Int32) (0 : Int32) S3) fun S4 =>
    fX12_loss_23 mK v1 (2 : Int32) S4
def fX12_marks_34 (S : mT) : Option (Int32 × mT) :=
  some ((-1 : Int32), S)
def fX12_marks_69 (v4 : Int32) (S : mT) : Option (Int32 × mT) :=
  some (v4, S)
def fX12_marks_43 : Nat → Int32 → Int32 → Int32 → Int32 → mT → Option (Int32 × mT)
  | 0, _, _, _, _, _ => none
  | k + 1, v1, v2, v3, v4, S =>
    if (200 : Int32) ≤ v4 then
      fX12_marks_69 v4 S
    else
      if (v1 * v2) ≤ ((v4 + (1 : Int32)) * v3) then
        fX12_marks_69 v4 S
      else
        bnd (v4 + (1 : Int32)) fun x8 =>
        fX12_marks_43 k v1 v2 v3 x8 S
def fX12_marks (v1 : Int32) (v2 : Int32) (v3 : Int32) (S : mT) : Option (Int32 × mT) :=
  bndC (fX12_isIn v1 (0 : Int32) (60 : Int32) S) fun x2 S1 =>
  if x2 = 0 then
    fX12_marks_34 S1
  else
    bndC (fX12_isIn v2 (0 : Int32) (60 : Int32) S1) fun x4 S3 =>
    if x4 = 0 then
      fX12_marks_34 S3
    else
      bndC (fX12_isIn v3 (0 : Int32) v1 S3) fun x6 S5 =>
      if x6 = 0 then
        fX12_marks_34 S5
      else
        if v3 ≤ v2 then
          bnd ((v1 + v2) - v3) fun x7 =>
          fX12_marks_43 mK v1 v2 v3 x7 S5
        else
          fX12_marks_34 S5
def fX12_membersOf_4 : Nat → Int32 → Int32 → Int32 → mT → Option (Int32 × mT)
  | 0, _, _, _, _ => none
  | k + 1, v0, v1, v2, S =>
    if (5 : Int32) ≤ v2 then
      some (v1, S)
    else
      bnd (v1 + ((v0 >>> (v2 &&& 31)) &&& (1 : Int32))) fun x1 =>
      bnd (v2 + (1 : Int32)) fun x2 =>
      fX12_membersOf_4 k v0 x1 x2 S
def fX12_membersOf (v0 : Int32) (S : mT) : Option (Int32 × mT) :=
  fX12_membersOf_4 mK v0 (0 : Int32) (0 : Int32) S
def fX12_missed (v1 : Int32) (S : mT) : Option (Int32 × mT) :=
  bndC (fX12_without v1 (-1 : Int32) S) fun x2 S1 =>
  some (x2, S1)
def fX12_moves_41 (S : mT) : Option (Int32 × mT) :=
  some ((-1 : Int32), S)
def fX12_moves (v1 : Int32) (v2 : Int32) (S : mT) : Option (Int32 × mT) :=
  bndC (fX12_isHouse v1 S) fun x2 S1 =>
  if x2 = 0 then
    fX12_moves_41 S1
  else
    bndC (fX12_isHouse v2 S1) fun x4 S3 =>
    if x4 = 0 then
      fX12_moves_41 S3
    else
      if v1 = v2 then
        fX12_moves_41 S3
      else
        grd (kI 208 v1 && (kO 187 12 && true)) <|
        if (S3.1 208 (mIx v1)) = 0 then
          fX12_moves_41 S3
        else
          grd (kI 208 v2 && (kO 187 12 && true)) <|
          if (S3.1 208 (mIx v2)) = (7 : Int32) then
            fX12_moves_41 S3
          else
            bndV (fX12_act S3) fun S5 =>
            bndV (fX12_leaves v1 S5) fun S6 =>
            grd (kI 208 v2 && (kI 208 v2 && (kO 187 12 && true))) <|
            bnd (sI S6 208 (mIx v2) ((S6.1 208 (mIx v2)) + (1 : Int32))) fun S7 =>
            grd (kI 208 v2 && (kO 187 12 && true)) <|
            some ((S7.1 208 (mIx v2)), S7)
def fX12_noon_16 (S : mT) : Option (Int32 × mT) :=
  some ((-1 : Int32), S)
def fX12_noon_79 (rc28 : Int32 → Int32 → Int32 → Int32 → mT → Option (Int32 × mT)) (v1 : Int32) (v2 : Int32) (v3 : Int32) (v4 : Int32) (S : mT) : Option (Int32 × mT) :=
  bnd (v4 + (1 : Int32)) fun x9 =>
  rc28 v1 v2 v3 x9 S
def fX12_noon_78 (rc28 : Int32 → Int32 → Int32 → Int32 → mT → Option (Int32 × mT)) (v1 : Int32) (v3 : Int32) (v4 : Int32) (s0 : Int32) (S : mT) : Option (Int32 × mT) :=
  fX12_noon_79 rc28 v1 s0 v3 v4 S
def fX12_noon_72 (rc28 : Int32 → Int32 → Int32 → Int32 → mT → Option (Int32 × mT)) (v1 : Int32) (v3 : Int32) (v4 : Int32) (v6 : Int32) (S : mT) : Option (Int32 × mT) :=
  fX12_noon_78 rc28 v1 v3 v4 v6 S
def fX12_noon_28 : Nat → Int32 → Int32 → Int32 → Int32 → mT → Option (Int32 × mT)
  | 0, _, _, _, _, _ => none
  | k + 1, v1, v2, v3, v4, S =>
    if v3 ≤ v4 then
      some (v2, S)
    else
      bndC (fX12_layCounters v4 S) fun x6 S5 =>
      if x6 < 0 then
        fX12_noon_79 (fX12_noon_28 k) v1 v2 v3 v4 S5
      else
        if x6 ≤ v1 then
          bndC (fX12_doneAt S5) fun x8 S7 =>
          if v2 < 0 then
            fX12_noon_72 (fX12_noon_28 k) v1 v3 v4 x8 S7
          else
            if v2 ≤ x8 then
              fX12_noon_78 (fX12_noon_28 k) v1 v3 v4 v2 S7
            else
              fX12_noon_72 (fX12_noon_28 k) v1 v3 v4 x8 S7
        else
          fX12_noon_79 (fX12_noon_28 k) v1 v2 v3 v4 S5
def fX12_noon (v1 : Int32) (S : mT) : Option (Int32 × mT) :=
  grd (kO 187 12 && true) <|
  if (S.1 187 37) = 0 then
    fX12_noon_16 S
  else
    bndC (fX12_isIn v1 (1 : Int32) (5 : Int32) S) fun x2 S1 =>
    if x2 = 0 then
      fX12_noon_16 S1
    else
      bndC (fX12_countersRows S1) fun x4 S3 =>
      fX12_noon_28 mK v1 (-1 : Int32) x4 (0 : Int32) S3
def fX12_odds_27 (S : mT) : Option (Int32 × mT) :=
  some ((-1 : Int32), S)
def fX12_odds_87 (s0 : Int32) (S : mT) : Option (Int32 × mT) :=
  some (s0, S)
def fX12_odds (v1 : Int32) (v2 : Int32) (v3 : Int32) (v4 : Int32) (S : mT) : Option (Int32 × mT) :=
  bndC (fX12_isHouse v1 S) fun x2 S1 =>
  if x2 = 0 then
    fX12_odds_27 S1
  else
    bndC (fX12_isIn v2 (0 : Int32) (7 : Int32) S1) fun x4 S3 =>
    if x4 = 0 then
      fX12_odds_27 S3
    else
      bndC (fX12_isIn v3 (0 : Int32) (1 : Int32) S3) fun x6 S5 =>
      if x6 = 0 then
        fX12_odds_27 S5
      else
        bndV (fX12_layTruths v4 S5) fun S7 =>
        grd (kO 187 12 && true) <|
        if (S7.1 187 69) = 0 then
          some ((-1 : Int32), S7)
        else
          grd (kI 229 (((8 : Int32) * v1) + v2) && (kO 187 12 && true)) <|
          bnd (S7.1 229 (mIx (((8 : Int32) * v1) + v2))) fun x8 =>
          grd (kO 187 12 && true) <|
          bndC (fX12_common (S7.1 187 69) x8 S7) fun x10 S9 =>
          if v3 = 0 then
            grd (decide (¬ x10 = 0) && true) <|
            fX12_odds_87 (x8 / x10) S9
          else
            grd (decide (¬ x10 = 0) && (kO 187 12 && true)) <|
            fX12_odds_87 ((S9.1 187 69) / x10) S9
def fX12_toldNumber_62 (v3 : Int32) (S : mT) : Option (Int32 × mT) :=
  some (v3, S)
def fX12_toldNumber_46 (S : mT) : Option (Int32 × mT) :=
  grd (kO 187 12 && true) <|
  bnd (S.1 187 8) fun x3 =>
  grd (kO 187 12 && true) <|
  if (S.1 187 2) = 0 then
    bndV (fX12_token S) fun S4 =>
    fX12_toldNumber_62 x3 S4
  else
    fX12_toldNumber_62 x3 S
def fX12_toldNumber_41 (S : mT) : Option (Int32 × mT) :=
  bndV (fX12_wrong (4 : Int32) S) fun S2 =>
  fX12_toldNumber_46 S2
def fX12_toldNumber (v1 : Int32) (v2 : Int32) (S : mT) : Option (Int32 × mT) :=
  grd (kO 187 12 && true) <|
  if (S.1 187 2) ≤ 0 then
    grd (kO 187 12 && true) <|
    if (S.1 187 6) = (2 : Int32) then
      grd (kO 187 12 && true) <|
      if (S.1 187 8) < v1 then
        fX12_toldNumber_41 S
      else
        grd (kO 187 12 && true) <|
        if (S.1 187 8) ≤ v2 then
          fX12_toldNumber_46 S
        else
          fX12_toldNumber_41 S
    else
      bndV (fX12_wrong (2 : Int32) S) fun S1 =>
      fX12_toldNumber_46 S1
  else
    some ((0 : Int32), S)
def fX12_want_28 (S : mT) : Option (mT) :=
  some S
def fX12_want (v1 : Int64) (S : mT) : Option (mT) :=
  grd (kO 187 12 && true) <|
  if (S.1 187 2) ≤ 0 then
    bndC (fX12_isWord v1 S) fun x2 S1 =>
    if x2 = 0 then
      bndV (fX12_wrong (2 : Int32) S1) fun S3 =>
      fX12_want_28 S3
    else
      bndV (fX12_token S1) fun S4 =>
      fX12_want_28 S4
  else
    some S
def fX12_told (v1 : Int64) (v3 : Int32) (v4 : Int32) (S : mT) : Option (Int32 × mT) :=
  bndV (fX12_want v1 S) fun S1 =>
  bndC (fX12_toldNumber v3 v4 S1) fun x3 S2 =>
  some (x3, S2)
def fX12_option_27 (s0 : Int32) (S : mT) : Option (Int32 × mT) :=
  some (s0, S)
def fX12_option_26 (S : mT) : Option (Int32 × mT) :=
  fX12_option_27 (0 : Int32) S
def fX12_option (v1 : Int64) (S : mT) : Option (Int32 × mT) :=
  grd (kO 187 12 && true) <|
  if (S.1 187 2) = 0 then
    bndC (fX12_isWord v1 S) fun x2 S1 =>
    if x2 = 0 then
      fX12_option_26 S1
    else
      bndC (fX12_told v1 (0 : Int32) (9 : Int32) S1) fun x4 S3 =>
      fX12_option_27 x4 S3
  else
    fX12_option_26 S
def fX12_readHouse_133 (S : mT) : Option (mT) :=
  some S
def fX12_readHouse_31 (S : mT) : Option (mT) :=
  grd (kO 187 12 && true) <|
  if (S.1 187 2) ≤ 0 then
    grd (kO 187 12 && true) <|
    bnd (S.1 187 35) fun x8 =>
    grd (kJ 189 x8 && (kO 187 12 && (kO 187 12 && true))) <|
    bnd (sJ S 189 (mIx x8) (S.2 187 9)) fun S9 =>
    bndV (fX12_token S9) fun S10 =>
    grd (kO 187 12 && true) <|
    bndC (fX12_told (24948 : Int64) (0 : Int32) (60 : Int32) S10) fun x12 S11 =>
    grd (kI 201 x8 && true) <|
    bnd (sI S11 201 (mIx x8) x12) fun S13 =>
    grd (kO 187 12 && true) <|
    bndC (fX12_told (448377480307 : Int64) (0 : Int32) (7 : Int32) S13) fun x15 S14 =>
    grd (kI 202 x8 && true) <|
    bnd (sI S14 202 (mIx x8) x15) fun S16 =>
    grd (kO 187 12 && true) <|
    bndC (fX12_option (6971757 : Int64) S16) fun x18 S17 =>
    grd (kI 203 x8 && true) <|
    bnd (sI S17 203 (mIx x8) x18) fun S19 =>
    grd (kO 187 12 && true) <|
    bndC (fX12_option (448310438260 : Int64) S19) fun x21 S20 =>
    grd (kI 204 x8 && true) <|
    bnd (sI S20 204 (mIx x8) x21) fun S22 =>
    grd (kO 187 12 && true) <|
    if (S22.1 187 2) = 0 then
      grd (kO 187 12 && (kO 187 12 && true)) <|
      bnd (sI S22 187 35 ((S22.1 187 35) + (1 : Int32))) fun S23 =>
      fX12_readHouse_133 S23
    else
      fX12_readHouse_133 S22
  else
    some S
def fX12_readHouse (S : mT) : Option (mT) :=
  bndV (fX12_token S) fun S1 =>
  bndC (fX12_isName S1) fun x3 S2 =>
  if x3 = 0 then
    bndV (fX12_wrong (2 : Int32) S2) fun S4 =>
    fX12_readHouse_31 S4
  else
    bndC (fX12_find S2) fun x6 S5 =>
    if x6 < 0 then
      fX12_readHouse_31 S5
    else
      bndV (fX12_wrong (3 : Int32) S5) fun S7 =>
      fX12_readHouse_31 S7
def fX12_readLine_183 (S : mT) : Option (mT) :=
  some S
def fX12_readLine_172 (S : mT) : Option (mT) :=
  grd (kO 187 12 && true) <|
  if (S.1 187 2) = 0 then
    bndV (fX12_token S) fun S11 =>
    fX12_readLine_183 S11
  else
    fX12_readLine_183 S
def fX12_readLine_151 (S : mT) : Option (mT) :=
  grd (kO 187 12 && true) <|
  if (S.1 187 2) = 0 then
    grd (kO 187 12 && true) <|
    if (S.1 187 6) = (59 : Int32) then
      fX12_readLine_172 S
    else
      bndV (fX12_wrong (2 : Int32) S) fun S7 =>
      fX12_readLine_172 S7
  else
    fX12_readLine_172 S
def fX12_readLine_146 (S : mT) : Option (mT) :=
  bndV (fX12_wrong (2 : Int32) S) fun S21 =>
  fX12_readLine_151 S21
def fX12_readLine_106 (S : mT) : Option (mT) :=
  bndC (fX12_isWord (1685217655 : Int64) S) fun x16 S15 =>
  if x16 = 0 then
    fX12_readLine_146 S15
  else
    grd (kO 187 12 && true) <|
    if (S15.1 187 38) = 0 then
      grd (mFit .boolean (1 : Int32) && (kO 187 12 && true)) <|
      bnd (sI S15 187 38 (1 : Int32)) fun S17 =>
      bndC (fX12_told (1685217655 : Int64) (0 : Int32) (999 : Int32) S17) fun x19 S18 =>
      grd (kO 187 12 && true) <|
      bnd (sI S18 187 36 x19) fun S20 =>
      fX12_readLine_151 S20
    else
      fX12_readLine_146 S15
def fX12_readLine_79 (S : mT) : Option (mT) :=
  bndC (fX12_isWord (1735552887 : Int64) S) fun x13 S12 =>
  if x13 = 0 then
    fX12_readLine_106 S12
  else
    grd (kB 198 (2 : Int32) && (kO 187 12 && true)) <|
    if (S12.1 198 (mIx (2 : Int32))) = 0 then
      bndV (fX12_formula (2 : Int32) S12) fun S14 =>
      fX12_readLine_151 S14
    else
      fX12_readLine_106 S12
def fX12_readLine_52 (S : mT) : Option (mT) :=
  bndC (fX12_isWord (7627128 : Int64) S) fun x9 S8 =>
  if x9 = 0 then
    fX12_readLine_79 S8
  else
    grd (kB 198 (1 : Int32) && (kO 187 12 && true)) <|
    if (S8.1 198 (mIx (1 : Int32))) = 0 then
      bndV (fX12_formula (1 : Int32) S8) fun S10 =>
      fX12_readLine_151 S10
    else
      fX12_readLine_79 S8
def fX12_readLine_25 (S : mT) : Option (mT) :=
  bndC (fX12_isWord (1936746868 : Int64) S) fun x5 S4 =>
  if x5 = 0 then
    fX12_readLine_52 S4
  else
    grd (kB 198 (0 : Int32) && (kO 187 12 && true)) <|
    if (S4.1 198 (mIx (0 : Int32))) = 0 then
      bndV (fX12_formula (0 : Int32) S4) fun S6 =>
      fX12_readLine_151 S6
    else
      fX12_readLine_52 S4
def fX12_readLine (S : mT) : Option (mT) :=
  bndC (fX12_isWord (448546567013 : Int64) S) fun x2 S1 =>
  if x2 = 0 then
    fX12_readLine_25 S1
  else
    grd (kO 187 12 && true) <|
    if (5 : Int32) ≤ (S1.1 187 35) then
      fX12_readLine_25 S1
    else
      bndV (fX12_readHouse S1) fun S3 =>
      fX12_readLine_151 S3
def fX12_readAll_93 (S : mT) : Option (mT) :=
  some S
def fX12_readAll_72 : Nat → mT → Option (mT)
  | 0, _ => none
  | k + 1, S =>
    grd (kO 187 12 && true) <|
    if (S.1 187 2) = 0 then
      grd (kO 187 12 && true) <|
      if (S.1 187 6) = 0 then
        fX12_readAll_93 S
      else
        bndV (fX12_readLine S) fun S13 =>
        fX12_readAll_72 k S13
    else
      fX12_readAll_93 S
def fX12_readAll_50 : Nat → Int32 → mT → Option (mT)
  | 0, _, _ => none
  | k + 1, v1, S =>
    if (3 : Int32) ≤ v1 then
      bndV (fX12_token S) fun S10 =>
      fX12_readAll_72 mK S10
    else
      grd (kB 198 v1 && (kO 187 12 && true)) <|
      bnd (sI S 198 (mIx v1) (kN 198 (0 : Int32))) fun S11 =>
      bnd (v1 + (1 : Int32)) fun x12 =>
      fX12_readAll_50 k x12 S11
def fX12_readAll (S : mT) : Option (mT) :=
  grd (kO 187 12 && (kO 187 12 && true)) <|
  bnd (sI S 187 5 (S.1 187 1)) fun S1 =>
  grd (kO 187 12 && true) <|
  bnd (sI S1 187 1 (0 : Int32)) fun S2 =>
  grd (kO 187 12 && true) <|
  bnd (sI S2 187 4 (0 : Int32)) fun S3 =>
  grd (kO 187 12 && true) <|
  bnd (sI S3 187 2 (0 : Int32)) fun S4 =>
  grd (kO 187 12 && true) <|
  bnd (sI S4 187 3 (-1 : Int32)) fun S5 =>
  grd (kO 187 12 && true) <|
  bnd (sI S5 187 35 (0 : Int32)) fun S6 =>
  grd (kO 187 12 && true) <|
  bnd (sI S6 187 36 (0 : Int32)) fun S7 =>
  grd (mFit .boolean (0 : Int32) && (kO 187 12 && true)) <|
  bnd (sI S7 187 38 (0 : Int32)) fun S8 =>
  grd (kO 187 12 && true) <|
  bnd (sI S8 187 23 (0 : Int32)) fun S9 =>
  fX12_readAll_50 mK (0 : Int32) S9
def fX12_province_79 (rc31 : Int32 → mT → Option (Int32 × mT)) : Nat → Int32 → Int32 → mT → Option (Int32 × mT)
  | 0, _, _, _ => none
  | k + 1, v1, v2, S =>
    grd (kI 195 v1 && (kO 187 12 && true)) <|
    if (((320 : Int32) * v1) + (S.1 195 (mIx v1))) ≤ v2 then
      bnd (v1 + (1 : Int32)) fun x17 =>
      rc31 x17 S
    else
      grd (kI 193 v2 && (kI 190 v2 && (kO 187 12 && (kO 187 12 && true)))) <|
      bnd (sI S 193 (mIx v2) (S.1 190 (mIx v2))) fun S18 =>
      grd (kI 194 v2 && (kI 191 v2 && (kO 187 12 && (kO 187 12 && true)))) <|
      bnd (sI S18 194 (mIx v2) (S18.1 191 (mIx v2))) fun S19 =>
      bnd (v2 + (1 : Int32)) fun x20 =>
      fX12_province_79 rc31 k v1 x20 S19
def fX12_province_72 (rc31 : Int32 → mT → Option (Int32 × mT)) (v1 : Int32) (s0 : Int32) (s1 : Int32) (S : mT) : Option (Int32 × mT) :=
  grd (kI 195 s1 && true) <|
  bnd (sI S 195 (mIx s1) s0) fun S7 =>
  bnd ((320 : Int32) * v1) fun x8 =>
  fX12_province_79 rc31 mK v1 x8 S7
def fX12_province_218 (rc154 : Int32 → mT → Option (Int32 × mT)) (v1 : Int32) (s0 : Int32) (s1 : Int32) (S : mT) : Option (Int32 × mT) :=
  grd (kI 208 s1 && true) <|
  bnd (sI S 208 (mIx s1) s0) fun S23 =>
  bnd (v1 + (1 : Int32)) fun x24 =>
  rc154 x24 S23
def fX12_province_258 : Nat → Int32 → mT → Option (Int32 × mT)
  | 0, _, _ => none
  | k + 1, v1, S =>
    if (3 : Int32) ≤ v1 then
      grd (kO 187 12 && true) <|
      some ((S.1 187 37), S)
    else
      grd (kB 231 v1 && (kO 187 12 && true)) <|
      bnd (sI S 231 (mIx v1) (kN 231 (0 : Int32))) fun S21 =>
      bnd (v1 + (1 : Int32)) fun x22 =>
      fX12_province_258 k x22 S21
def fX12_province_154 : Nat → Int32 → mT → Option (Int32 × mT)
  | 0, _, _ => none
  | k + 1, v1, S =>
    if (5 : Int32) ≤ v1 then
      grd (kI 208 (16 : Int32) && (kO 187 12 && (kO 187 12 && true))) <|
      bnd (sI S 208 (mIx (16 : Int32)) (S.1 187 36)) fun S9 =>
      grd (kO 187 12 && true) <|
      bnd (sI S9 187 46 (0 : Int32)) fun S10 =>
      grd (kO 187 12 && true) <|
      bnd (sI S10 187 47 (0 : Int32)) fun S11 =>
      grd (kO 187 12 && true) <|
      bnd (sI S11 187 66 (0 : Int32)) fun S12 =>
      grd (kO 187 12 && true) <|
      bnd (sI S12 187 51 (0 : Int32)) fun S13 =>
      fX12_province_258 mK (0 : Int32) S13
    else
      grd (kI 205 v1 && (kI 201 v1 && (kO 187 12 && (kO 187 12 && true)))) <|
      bnd (sI S 205 (mIx v1) (S.1 201 (mIx v1))) fun S14 =>
      grd (kI 206 v1 && (kI 203 v1 && (kO 187 12 && (kO 187 12 && true)))) <|
      bnd (sI S14 206 (mIx v1) (S14.1 203 (mIx v1))) fun S15 =>
      grd (kI 207 v1 && (kI 204 v1 && (kO 187 12 && (kO 187 12 && true)))) <|
      bnd (sI S15 207 (mIx v1) (S15.1 204 (mIx v1))) fun S16 =>
      grd (kO 187 12 && (kO 187 12 && true)) <|
      if (S16.1 187 37) ≤ v1 then
        fX12_province_218 (fX12_province_154 k) v1 (0 : Int32) v1 S16
      else
        grd (kI 202 v1 && (kO 187 12 && true)) <|
        fX12_province_218 (fX12_province_154 k) v1 (S16.1 202 (mIx v1)) v1 S16
def fX12_province_133 : Nat → Int32 → mT → Option (Int32 × mT)
  | 0, _, _ => none
  | k + 1, v1, S =>
    if (17 : Int32) ≤ v1 then
      fX12_province_154 mK (0 : Int32) S
    else
      grd (kI 208 v1 && (kO 187 12 && true)) <|
      bnd (sI S 208 (mIx v1) (0 : Int32)) fun S5 =>
      bnd (v1 + (1 : Int32)) fun x6 =>
      fX12_province_133 k x6 S5
def fX12_province_31 : Nat → Int32 → mT → Option (Int32 × mT)
  | 0, _, _ => none
  | k + 1, v1, S =>
    if (3 : Int32) ≤ v1 then
      fX12_province_133 mK (0 : Int32) S
    else
      grd (kB 199 v1 && (kB 198 v1 && (kO 187 12 && (kO 187 12 && true)))) <|
      bnd (sI S 199 (mIx v1) (kN 199 (S.1 198 (mIx v1)))) fun S4 =>
      grd (kB 199 v1 && (kO 187 12 && (kO 187 12 && true))) <|
      if (S4.1 199 (mIx v1)) = 0 then
        fX12_province_72 (fX12_province_31 k) v1 (0 : Int32) v1 S4
      else
        grd (kI 192 v1 && (kO 187 12 && true)) <|
        fX12_province_72 (fX12_province_31 k) v1 (S4.1 192 (mIx v1)) v1 S4
def fX12_province (S : mT) : Option (Int32 × mT) :=
  bndV (fX12_readAll S) fun S1 =>
  grd (kO 187 12 && true) <|
  if (S1.1 187 2) ≤ 0 then
    grd (kO 187 12 && (kO 187 12 && true)) <|
    bnd (sI S1 187 37 (S1.1 187 35)) fun S2 =>
    grd (kO 187 12 && (kO 187 12 && true)) <|
    bnd (sI S2 187 24 (S2.1 187 23)) fun S3 =>
    fX12_province_31 mK (0 : Int32) S3
  else
    some ((-1 : Int32), S1)
def fX12_range_17 (S : mT) : Option (Int32 × mT) :=
  some ((-1 : Int32), S)
def fX12_range_76 (rc33 : Int32 → Int32 → Int32 → Int32 → Int32 → mT → Option (Int32 × mT)) (v1 : Int32) (v2 : Int32) (v4 : Int32) (v5 : Int32) (v6 : Int32) (S : mT) : Option (Int32 × mT) :=
  bnd (v6 + (1 : Int32)) fun x6 =>
  rc33 v1 v2 v4 v5 x6 S
def fX12_range_70 (rc33 : Int32 → Int32 → Int32 → Int32 → Int32 → mT → Option (Int32 × mT)) (v1 : Int32) (v2 : Int32) (v6 : Int32) (s0 : Int32) (S : mT) : Option (Int32 × mT) :=
  fX12_range_76 rc33 v1 v2 s0 v6 v6 S
def fX12_range_93 (s0 : Int32) (S : mT) : Option (Int32 × mT) :=
  some (s0, S)
def fX12_range_33 : Nat → Int32 → Int32 → Int32 → Int32 → Int32 → mT → Option (Int32 × mT)
  | 0, _, _, _, _, _, _ => none
  | k + 1, v1, v2, v4, v5, v6, S =>
    if (7 : Int32) < v6 then
      if v2 = 0 then
        fX12_range_93 v4 S
      else
        fX12_range_93 v5 S
    else
      grd (kI 229 (((8 : Int32) * v1) + v6) && (kO 187 12 && true)) <|
      if (S.1 229 (mIx (((8 : Int32) * v1) + v6))) = 0 then
        fX12_range_76 (fX12_range_33 k) v1 v2 v4 v5 v6 S
      else
        if 0 ≤ v4 then
          fX12_range_70 (fX12_range_33 k) v1 v2 v6 v4 S
        else
          fX12_range_70 (fX12_range_33 k) v1 v2 v6 v6 S
def fX12_range (v1 : Int32) (v2 : Int32) (v3 : Int32) (S : mT) : Option (Int32 × mT) :=
  bndC (fX12_isHouse v1 S) fun x2 S1 =>
  if x2 = 0 then
    fX12_range_17 S1
  else
    bndC (fX12_isIn v2 (0 : Int32) (1 : Int32) S1) fun x4 S3 =>
    if x4 = 0 then
      fX12_range_17 S3
    else
      bndV (fX12_layTruths v3 S3) fun S5 =>
      fX12_range_33 mK v1 v2 (-1 : Int32) (-1 : Int32) (0 : Int32) S5
def fX12_redo (S : mT) : Option (Int32 × mT) :=
  grd (kO 187 12 && true) <|
  if (S.1 187 47) = 0 then
    some ((0 : Int32), S)
  else
    grd (kO 187 12 && true) <|
    bndV (fX12_exchange ((18 : Int32) * (S.1 187 46)) S) fun S1 =>
    grd (kO 187 12 && (kO 187 12 && true)) <|
    bnd (sI S1 187 46 ((S1.1 187 46) + (1 : Int32))) fun S2 =>
    grd (kO 187 12 && (kO 187 12 && true)) <|
    bnd (sI S2 187 47 ((S2.1 187 47) - (1 : Int32))) fun S3 =>
    some ((1 : Int32), S3)
def fX12_report_45 (S : mT) : Option (Int32 × mT) :=
  some ((-1 : Int32), S)
def fX12_report (v1 : Int32) (v2 : Int32) (v3 : Int32) (S : mT) : Option (Int32 × mT) :=
  grd (kO 187 12 && true) <|
  bndC (fX12_isIn v1 (1 : Int32) (((1 : Int32) <<< ((S.1 187 37) &&& 31)) - (1 : Int32)) S) fun x2 S1 =>
  if x2 = 0 then
    fX12_report_45 S1
  else
    bndC (fX12_isIn v2 (0 : Int32) (35 : Int32) S1) fun x4 S3 =>
    if x4 = 0 then
      fX12_report_45 S3
    else
      bndC (fX12_isIn v3 v2 (35 : Int32) S3) fun x6 S5 =>
      if x6 = 0 then
        fX12_report_45 S5
      else
        grd (kO 187 12 && true) <|
        if (S5.1 187 66) = (30 : Int32) then
          fX12_report_45 S5
        else
          grd (kI 224 (S5.1 187 66) && (kO 187 12 && (kO 187 12 && true))) <|
          bnd (sI S5 224 (mIx (S5.1 187 66)) v1) fun S7 =>
          grd (kI 225 (S7.1 187 66) && (kO 187 12 && (kO 187 12 && true))) <|
          bnd (sI S7 225 (mIx (S7.1 187 66)) v2) fun S8 =>
          grd (kI 226 (S8.1 187 66) && (kO 187 12 && (kO 187 12 && true))) <|
          bnd (sI S8 226 (mIx (S8.1 187 66)) v3) fun S9 =>
          grd (kI 227 (S9.1 187 66) && (kO 187 12 && (kO 187 12 && (kO 187 12 && true)))) <|
          bnd (sI S9 227 (mIx (S9.1 187 66)) (S9.1 187 67)) fun S10 =>
          grd (kI 228 (S10.1 187 66) && (kO 187 12 && (kO 187 12 && true))) <|
          bnd (sI S10 228 (mIx (S10.1 187 66)) (-1 : Int32)) fun S11 =>
          grd (kO 187 12 && (kO 187 12 && true)) <|
          bnd (sI S11 187 66 ((S11.1 187 66) + (1 : Int32))) fun S12 =>
          grd (kO 187 12 && true) <|
          some (((S12.1 187 66) - (1 : Int32)), S12)
def fX12_rounds_111 (rc28 : Int32 → Int32 → Int32 → Int32 → mT → Option (Int32 × mT)) (v1 : Int32) (v2 : Int32) (v3 : Int32) (v4 : Int32) (S : mT) : Option (Int32 × mT) :=
  bnd (v4 + (1 : Int32)) fun x8 =>
  rc28 v1 v2 v3 x8 S
def fX12_rounds_74 (rc28 : Int32 → Int32 → Int32 → Int32 → mT → Option (Int32 × mT)) : Nat → Int32 → Int32 → Int32 → Int32 → Int32 → mT → Option (Int32 × mT)
  | 0, _, _, _, _, _, _ => none
  | k + 1, v1, v2, v3, v4, v6, S =>
    grd (kO 187 12 && true) <|
    if (S.1 187 37) ≤ v6 then
      grd (kO 187 12 && (kO 187 12 && true)) <|
      bnd (sI S 187 51 (S.1 187 37)) fun S11 =>
      fX12_rounds_111 rc28 v1 v2 v3 v4 S11
    else
      grd (kI 215 v6 && (kI 216 v6 && (kO 187 12 && (kO 187 12 && true)))) <|
      bnd (sI S 215 (mIx v6) (S.1 216 (mIx v6))) fun S12 =>
      bnd (v6 + (1 : Int32)) fun x13 =>
      fX12_rounds_74 rc28 k v1 v2 v3 v4 x13 S12
def fX12_rounds_57 (rc28 : Int32 → Int32 → Int32 → Int32 → mT → Option (Int32 × mT)) (v1 : Int32) (v2 : Int32) (v3 : Int32) (v4 : Int32) (v5 : Int32) (S : mT) : Option (Int32 × mT) :=
  bndC (fX12_doneAt S) fun x10 S9 =>
  if x10 ≤ v1 then
    fX12_rounds_74 rc28 mK v1 v5 v3 v4 (0 : Int32) S9
  else
    fX12_rounds_111 rc28 v1 v2 v3 v4 S9
def fX12_rounds_28 : Nat → Int32 → Int32 → Int32 → Int32 → mT → Option (Int32 × mT)
  | 0, _, _, _, _, _ => none
  | k + 1, v1, v2, v3, v4, S =>
    if v3 ≤ v4 then
      some (v2, S)
    else
      bndC (fX12_layCounters v4 S) fun x7 S6 =>
      if x7 < 0 then
        fX12_rounds_111 (fX12_rounds_28 k) v1 v2 v3 v4 S6
      else
        if v2 < 0 then
          fX12_rounds_57 (fX12_rounds_28 k) v1 v2 v3 v4 x7 S6
        else
          if v2 ≤ x7 then
            fX12_rounds_111 (fX12_rounds_28 k) v1 v2 v3 v4 S6
          else
            fX12_rounds_57 (fX12_rounds_28 k) v1 v2 v3 v4 x7 S6
def fX12_rounds (v1 : Int32) (S : mT) : Option (Int32 × mT) :=
  grd (kO 187 12 && true) <|
  bnd (sI S 187 51 (0 : Int32)) fun S1 =>
  bndC (fX12_isIn v1 (0 : Int32) (999 : Int32) S1) fun x3 S2 =>
  if x3 = 0 then
    some ((-1 : Int32), S2)
  else
    bndC (fX12_countersRows S2) fun x5 S4 =>
    fX12_rounds_28 mK v1 (-1 : Int32) x5 (0 : Int32) S4
def fX12_seats_27 (S : mT) : Option (Int32 × mT) :=
  some ((-1 : Int32), S)
def fX12_seats (v1 : Int32) (v2 : Int32) (v3 : Int32) (S : mT) : Option (Int32 × mT) :=
  bndC (fX12_isHouse v1 S) fun x2 S1 =>
  if x2 = 0 then
    fX12_seats_27 S1
  else
    bndC (fX12_isIn v2 (1 : Int32) (20 : Int32) S1) fun x4 S3 =>
    if x4 = 0 then
      fX12_seats_27 S3
    else
      bndC (fX12_isIn v3 (0 : Int32) (1 : Int32) S3) fun x6 S5 =>
      if x6 = 0 then
        fX12_seats_27 S5
      else
        bndV (fX12_load S5) fun S7 =>
        bndV (fX12_laySeats v2 v3 S7) fun S8 =>
        grd (kI 217 v1 && (kO 187 12 && true)) <|
        some ((S8.1 217 (mIx v1)), S8)
def fX12_steal_31 (S : mT) : Option (Int32 × mT) :=
  some ((-1 : Int32), S)
def fX12_steal (v1 : Int32) (v2 : Int32) (S : mT) : Option (Int32 × mT) :=
  bndC (fX12_isHouse v1 S) fun x2 S1 =>
  if x2 = 0 then
    fX12_steal_31 S1
  else
    bndC (fX12_isIn v2 (1 : Int32) (99 : Int32) S1) fun x4 S3 =>
    if x4 = 0 then
      fX12_steal_31 S3
    else
      grd (kI 208 ((10 : Int32) + v1) && (kO 187 12 && true)) <|
      if v2 ≤ (S3.1 208 (mIx ((10 : Int32) + v1))) then
        bndV (fX12_act S3) fun S5 =>
        grd (kI 208 ((10 : Int32) + v1) && (kI 208 ((10 : Int32) + v1) && (kO 187 12 && true))) <|
        bnd (sI S5 208 (mIx ((10 : Int32) + v1)) ((S5.1 208 (mIx ((10 : Int32) + v1))) - v2)) fun S6 =>
        grd (kI 208 ((10 : Int32) + v1) && (kO 187 12 && true)) <|
        some ((S6.1 208 (mIx ((10 : Int32) + v1))), S6)
      else
        fX12_steal_31 S3
def fX12_stone_19 (S : mT) : Option (Int32 × mT) :=
  some ((-1 : Int32), S)
def fX12_stone_40 : Nat → Int32 → Int32 → Int32 → Int32 → mT → Option (Int32 × mT)
  | 0, _, _, _, _, _ => none
  | k + 1, v1, v2, v3, v4, S =>
    grd (kO 187 12 && true) <|
    if (S.1 187 37) ≤ v4 then
      some (v3, S)
    else
      grd (kI 211 v4 && (kI 211 v4 && (kO 187 12 && true))) <|
      bnd (sI S 211 (mIx v4) ((S.1 211 (mIx v4)) + (1 : Int32))) fun S8 =>
      bndV (fX12_laySeats v1 v2 S8) fun S9 =>
      grd (kI 211 v4 && (kI 211 v4 && (kO 187 12 && true))) <|
      bnd (sI S9 211 (mIx v4) ((S9.1 211 (mIx v4)) - (1 : Int32))) fun S10 =>
      bndC (fX12_isOtherSeats S10) fun x12 S11 =>
      bndC (fX12_truth x12 S11) fun x14 S13 =>
      bnd (v3 ||| (x14 <<< (v4 &&& 31))) fun x15 =>
      bnd (v4 + (1 : Int32)) fun x16 =>
      fX12_stone_40 k v1 v2 x15 x16 S13
def fX12_stone (v1 : Int32) (v2 : Int32) (S : mT) : Option (Int32 × mT) :=
  bndC (fX12_isIn v1 (1 : Int32) (20 : Int32) S) fun x2 S1 =>
  if x2 = 0 then
    fX12_stone_19 S1
  else
    bndC (fX12_isIn v2 (0 : Int32) (1 : Int32) S1) fun x4 S3 =>
    if x4 = 0 then
      fX12_stone_19 S3
    else
      bndV (fX12_load S3) fun S5 =>
      bndV (fX12_laySeats v1 v2 S5) fun S6 =>
      bndV (fX12_keepSeats S6) fun S7 =>
      fX12_stone_40 mK v1 v2 (0 : Int32) (0 : Int32) S7
def fX12_summer (S : mT) : Option (Int32 × mT) :=
  grd (kI 208 (15 : Int32) && (kO 187 12 && true)) <|
  if (S.1 208 (mIx (15 : Int32))) = (999 : Int32) then
    some ((-1 : Int32), S)
  else
    bndV (fX12_act S) fun S1 =>
    bndV (fX12_load S1) fun S2 =>
    bndV (fX12_goSummer S2) fun S3 =>
    bndV (fX12_keep S3) fun S4 =>
    bndC (fX12_allBowls S4) fun x6 S5 =>
    some (x6, S5)
def fX12_tellsAll_105 (rc34 : Int32 → Int32 → Int32 → Int32 → Int32 → mT → Option (Int32 × mT)) (rc66 : Int32 → Int32 → Int32 → Int32 → Int32 → Int32 → mT → Option (Int32 × mT)) (v1 : Int32) (v2 : Int32) (v3 : Int32) (v5 : Int32) (v6 : Int32) (v7 : Int32) (S : mT) : Option (Int32 × mT) :=
  bnd (v7 + (1 : Int32)) fun x10 =>
  rc66 v1 v2 v3 v5 v6 x10 S
def fX12_tellsAll_136 (rc34 : Int32 → Int32 → Int32 → Int32 → Int32 → mT → Option (Int32 × mT)) (v1 : Int32) (v2 : Int32) (v3 : Int32) (v4 : Int32) (v5 : Int32) (S : mT) : Option (Int32 × mT) :=
  bnd (v5 + (1 : Int32)) fun x8 =>
  rc34 v1 v2 v3 v4 x8 S
def fX12_tellsAll_126 (rc34 : Int32 → Int32 → Int32 → Int32 → Int32 → mT → Option (Int32 × mT)) (v1 : Int32) (v2 : Int32) (v3 : Int32) (v5 : Int32) (v6 : Int32) (s0 : Int32) (S : mT) : Option (Int32 × mT) :=
  grd (kB 230 v6 && (kO 187 12 && true)) <|
  bnd (sI S 230 (mIx v6) (kN 230 (1 : Int32))) fun S9 =>
  fX12_tellsAll_136 rc34 v1 v2 v3 s0 v5 S9
def fX12_tellsAll_66 (rc34 : Int32 → Int32 → Int32 → Int32 → Int32 → mT → Option (Int32 × mT)) : Nat → Int32 → Int32 → Int32 → Int32 → Int32 → Int32 → mT → Option (Int32 × mT)
  | 0, _, _, _, _, _, _, _ => none
  | k + 1, v1, v2, v3, v5, v6, v7, S =>
    grd (kO 187 12 && true) <|
    if (S.1 187 37) ≤ v7 then
      grd (kB 230 v6 && (kO 187 12 && true)) <|
      if (S.1 230 (mIx v6)) = 0 then
        fX12_tellsAll_126 rc34 v1 v2 v3 v5 v6 (1 : Int32) S
      else
        fX12_tellsAll_126 rc34 v1 v2 v3 v5 v6 (0 : Int32) S
    else
      if ((v1 >>> (v7 &&& 31)) &&& (1 : Int32)) = 0 then
        grd (kO 187 12 && true) <|
        bnd (v6 &&& (((7 : Int32) <<< (((3 : Int32) * (((S.1 187 37) - (1 : Int32)) - v7)) &&& 31)) ^^^ (-1 : Int32))) fun x7 =>
        fX12_tellsAll_105 rc34 (fX12_tellsAll_66 rc34 k) v1 v2 v3 v5 x7 v7 S
      else
        fX12_tellsAll_105 rc34 (fX12_tellsAll_66 rc34 k) v1 v2 v3 v5 v6 v7 S
def fX12_tellsAll_142 (v4 : Int32) (S : mT) : Option (Int32 × mT) :=
  grd (mFit .boolean v4) (some (v4, S))
def fX12_tellsAll_34 : Nat → Int32 → Int32 → Int32 → Int32 → Int32 → mT → Option (Int32 × mT)
  | 0, _, _, _, _, _, _ => none
  | k + 1, v1, v2, v3, v4, v5, S =>
    if v3 ≤ v5 then
      fX12_tellsAll_142 v4 S
    else
      if v4 = 0 then
        fX12_tellsAll_142 v4 S
      else
        bndC (fX12_liarsOf v5 v2 (0 : Int32) S) fun x6 S5 =>
        if x6 ≤ 0 then
          fX12_tellsAll_66 (fX12_tellsAll_34 k) mK v1 v2 v3 v5 v5 (0 : Int32) S5
        else
          fX12_tellsAll_136 (fX12_tellsAll_34 k) v1 v2 v3 v4 v5 S5
def fX12_tellsAll_8 : Nat → Int32 → Int32 → Int32 → Int32 → mT → Option (Int32 × mT)
  | 0, _, _, _, _, _ => none
  | k + 1, v1, v2, v3, v4, S =>
    if v3 ≤ v4 then
      fX12_tellsAll_34 mK v1 v2 v3 (1 : Int32) (0 : Int32) S
    else
      grd (kB 230 v4 && (kO 187 12 && true)) <|
      bnd (sI S 230 (mIx v4) (kN 230 (0 : Int32))) fun S3 =>
      bnd (v4 + (1 : Int32)) fun x4 =>
      fX12_tellsAll_8 k v1 v2 v3 x4 S3
def fX12_tellsAll (v1 : Int32) (v2 : Int32) (S : mT) : Option (Int32 × mT) :=
  bndC (fX12_rowsOf S) fun x2 S1 =>
  fX12_tellsAll_8 mK v1 v2 x2 (0 : Int32) S1
def fX12_tells_91 (rc37 : Int32 → Int32 → Int32 → Int32 → mT → Option (Int32 × mT)) (v1 : Int32) (v2 : Int32) (v3 : Int32) (v4 : Int32) (S : mT) : Option (Int32 × mT) :=
  bnd (v4 + (1 : Int32)) fun x17 =>
  rc37 v1 v2 v3 x17 S
def fX12_tells_78 (rc37 : Int32 → Int32 → Int32 → Int32 → mT → Option (Int32 × mT)) (v1 : Int32) (v2 : Int32) (v3 : Int32) (v4 : Int32) (S : mT) : Option (Int32 × mT) :=
  bndC (fX12_tellsAll v4 v2 S) fun x16 S15 =>
  if x16 = 0 then
    fX12_tells_91 rc37 v1 v2 v3 v4 S15
  else
    fX12_tells_91 rc37 v1 v2 v4 v4 S15
def fX12_tells_109 (s0 : Int32) (S : mT) : Option (Int32 × mT) :=
  some (s0, S)
def fX12_tells_37 : Nat → Int32 → Int32 → Int32 → Int32 → mT → Option (Int32 × mT)
  | 0, _, _, _, _, _ => none
  | k + 1, v1, v2, v3, v4, S =>
    grd (kO 187 12 && true) <|
    if ((1 : Int32) <<< ((S.1 187 37) &&& 31)) ≤ v4 then
      if v1 = 0 then
        bndC (fX12_membersOf v3 S) fun x6 S5 =>
        fX12_tells_109 x6 S5
      else
        fX12_tells_109 v3 S
    else
      bndC (fX12_membersOf v4 S) fun x8 S7 =>
      bndC (fX12_membersOf v3 S7) fun x10 S9 =>
      if x8 < x10 then
        fX12_tells_78 (fX12_tells_37 k) v1 v2 v3 v4 S9
      else
        bndC (fX12_membersOf v4 S9) fun x12 S11 =>
        bndC (fX12_membersOf v3 S11) fun x14 S13 =>
        if x12 = x14 then
          if v3 ≤ v4 then
            fX12_tells_91 (fX12_tells_37 k) v1 v2 v3 v4 S13
          else
            fX12_tells_78 (fX12_tells_37 k) v1 v2 v3 v4 S13
        else
          fX12_tells_91 (fX12_tells_37 k) v1 v2 v3 v4 S13
def fX12_tells (v1 : Int32) (v2 : Int32) (S : mT) : Option (Int32 × mT) :=
  bndC (fX12_isIn v1 (0 : Int32) (1 : Int32) S) fun x2 S1 =>
  if x2 = 0 then
    some ((-1 : Int32), S1)
  else
    bndV (fX12_layTruths v2 S1) fun S3 =>
    grd (kO 187 12 && true) <|
    if (S3.1 187 69) = 0 then
      some ((-1 : Int32), S3)
    else
      grd (kO 187 12 && true) <|
      bnd (((1 : Int32) <<< ((S3.1 187 37) &&& 31)) - (1 : Int32)) fun x4 =>
      fX12_tells_37 mK v1 v2 x4 (0 : Int32) S3
def fX12_truths (v1 : Int32) (S : mT) : Option (Int32 × mT) :=
  bndV (fX12_layTruths v1 S) fun S1 =>
  grd (kO 187 12 && true) <|
  some ((S1.1 187 69), S1)
def fX12_undo (S : mT) : Option (Int32 × mT) :=
  grd (kO 187 12 && true) <|
  if (S.1 187 46) = 0 then
    some ((0 : Int32), S)
  else
    grd (kO 187 12 && (kO 187 12 && true)) <|
    bnd (sI S 187 46 ((S.1 187 46) - (1 : Int32))) fun S1 =>
    grd (kO 187 12 && (kO 187 12 && true)) <|
    bnd (sI S1 187 47 ((S1.1 187 47) + (1 : Int32))) fun S2 =>
    grd (kO 187 12 && true) <|
    bndV (fX12_exchange ((18 : Int32) * (S2.1 187 46)) S2) fun S3 =>
    some ((1 : Int32), S3)
def fX12_untell_23 (S : mT) : Option (Int32 × mT) :=
  some ((0 : Int32), S)
def fX12_untell (v1 : Int32) (S : mT) : Option (Int32 × mT) :=
  grd (kO 187 12 && true) <|
  bndC (fX12_isIn v1 (0 : Int32) ((S.1 187 66) - (1 : Int32)) S) fun x2 S1 =>
  if x2 = 0 then
    fX12_untell_23 S1
  else
    grd (kI 228 v1 && (kO 187 12 && true)) <|
    if (S1.1 228 (mIx v1)) < 0 then
      grd (kI 228 v1 && (kO 187 12 && (kO 187 12 && true))) <|
      bnd (sI S1 228 (mIx v1) (S1.1 187 67)) fun S3 =>
      some ((1 : Int32), S3)
    else
      fX12_untell_23 S1
def fX12_will_18 (S : mT) : Option (Int32 × mT) :=
  some ((-1 : Int32), S)
def fX12_will (v1 : Int32) (v2 : Int32) (S : mT) : Option (Int32 × mT) :=
  bndC (fX12_isHouse v1 S) fun x2 S1 =>
  if x2 = 0 then
    fX12_will_18 S1
  else
    bndC (fX12_isIn v2 (0 : Int32) (60 : Int32) S1) fun x4 S3 =>
    if x4 = 0 then
      fX12_will_18 S3
    else
      bndV (fX12_goFar v2 S3) fun S5 =>
      grd (kI 209 v1 && (kO 187 12 && true)) <|
      some ((S5.1 209 (mIx v1)), S5)
