def X4_isWritable_L3 (x0 : Int) (σ : MM) (k39 : Option Int) : Nat → Int → Option Int
  | 0, _ => none
  | n + 1, x1 =>
    if x1 < 0 then
      k39
    else
      if jand (jshr x0 x1) 255 = 0 then
        X4_isWritable_L3 x0 σ k39 n (x1 + (-8))
      else
        if jand (jshr x0 x1) 255 < 33 then
          some 0
        else
          if 126 < jand (jshr x0 x1) 255 then
            some 0
          else
            X4_isWritable_L3 x0 σ k39 n (x1 + (-8))
def X4_isWritable (a1 : Int) (σ : MM) : Option Int :=
  X4_isWritable_L3 a1 σ (
      some 1) 100000 24
def X4_hasRoomFor_L5 (x1 : Int) (σ : MM) (k28 : Int → Option Int) : Nat → Int → Int → Option Int
  | 0, _, _ => none
  | n + 1, x2, x3 =>
    if x3 < 0 then
      k28 x2
    else
      if jand (jshr x1 x3) 255 = 0 then
        X4_hasRoomFor_L5 x1 σ k28 n x2 (x3 + (-8))
      else
        gd (inR (x2 + 1)) <|
        X4_hasRoomFor_L5 x1 σ k28 n (x2 + 1) (x3 + (-8))
def X4_hasRoomFor (a1 : Int) (σ : MM) : Option Int :=
  X4_hasRoomFor_L5 a1 σ (fun z4 => 
      gd (inR ((σ 34 1) + z4)) <|
      if 60 < (σ 34 1) + z4 then
        some 0
      else
        some 1) 100000 0 24
def X4_add_L3 (x1 : Int) (k55 : MM → Option MM) : Nat → Int → MM → Option MM
  | 0, _, _ => none
  | n + 1, x2, σ =>
    if x2 < 0 then
      k55 σ
    else
      if jand (jshr x1 x2) 255 = 0 then
        X4_add_L3 x1 k55 n (x2 + (-8)) σ
      else
        if σ 34 1 < 60 then
          gd (0 ≤ σ 34 1 ∧ σ 34 1 < 60) <|
          gd (0 ≤ ji2c (jand (jshr x1 x2) 255) ∧ ji2c (jand (jshr x1 x2) 255) < 65536) <|
          mlet (zup σ 35 (σ 34 1) (ji2c (jand (jshr x1 x2) 255))) fun σ8 =>
          gd (inR ((σ8 34 1) + 1)) <|
          mlet (zup σ8 34 1 ((σ8 34 1) + 1)) fun σ12 =>
          X4_add_L3 x1 k55 n (x2 + (-8)) σ12
        else
          X4_add_L3 x1 k55 n (x2 + (-8)) σ
def X4_add (a1 : Int) (σ : MM) : Option MM :=
  X4_add_L3 a1 (fun σ14 => 
      some σ14) 100000 24 σ
def X5_append (a1 : Int) (σ : MM) : Option (Int × Int × MM) :=
  (X4_isWritable a1 σ).bind fun r1 =>
  if r1 = 0 then
    some (1, 0, σ)
  else
    (X4_hasRoomFor a1 σ).bind fun r5 =>
    if r5 = 0 then
      some (2, 0, σ)
    else
      (X4_add a1 σ).bind fun σ11 =>
      some (0, σ11 34 1, σ11)
def X0_copyDependence (b : Nat) (b2 : Nat) (a2 : Int) (a3 : Int) (σ : MM) : Option MM :=
  if a2 < 0 then
    some σ
  else
    if a2 < 16 then
      if a3 < 0 then
        some σ
      else
        if a3 < 16 then
          mlet (zup σ (b + 5) a3 (σ (b2 + 5) a2)) fun σ6 =>
          mlet (zup σ6 (b + 6) a3 (σ6 (b2 + 6) a2)) fun σ9 =>
          mlet (zup σ9 (b + 7) a3 (σ9 (b2 + 7) a2)) fun σ12 =>
          mlet (zup σ12 (b + 8) a3 (σ12 (b2 + 8) a2)) fun σ15 =>
          gd (σ15 (b2 + 9) a2 = 0 ∨ σ15 (b2 + 9) a2 = 1) <|
          mlet (zup σ15 (b + 9) a3 (σ15 (b2 + 9) a2)) fun σ19 =>
          some σ19
        else
          some σ
    else
      some σ
def X0_copyFrom_L10 (b : Nat) (b2 : Nat) (k58 : MM → Option MM) : Nat → Int → MM → Option MM
  | 0, _, _ => none
  | n + 1, x2, σ =>
    if x2 < 8 then
      gd (0 ≤ x2 ∧ x2 < 8) <|
      mlet (zup σ (b + 1) x2 (σ (b2 + 1) x2)) fun σ7 =>
      mlet (zup σ7 (b + 2) x2 (σ7 (b2 + 2) x2)) fun σ10 =>
      mlet (zup σ10 (b + 3) x2 (σ10 (b2 + 3) x2)) fun σ13 =>
      X0_copyFrom_L10 b b2 k58 n (x2 + 1) σ13
    else
      k58 σ
def X0_copyFrom_L68 (b : Nat) (b2 : Nat) (k87 : MM → Option MM) : Nat → Int → MM → Option MM
  | 0, _, _ => none
  | n + 1, x2, σ =>
    if x2 < 16 then
      (X0_copyDependence b b2 x2 x2 σ).bind fun σ22 =>
      X0_copyFrom_L68 b b2 k87 n (x2 + 1) σ22
    else
      k87 σ
def X0_copyFrom_L89 (b : Nat) (b2 : Nat) (k112 : MM → Option MM) : Nat → Int → MM → Option MM
  | 0, _, _ => none
  | n + 1, x2, σ =>
    if x2 < 4 then
      gd (0 ≤ x2 ∧ x2 < 4) <|
      mlet (zup σ (b + 10) x2 (σ (b2 + 10) x2)) fun σ27 =>
      X0_copyFrom_L89 b b2 k112 n (x2 + 1) σ27
    else
      k112 σ
def X0_copyFrom (b : Nat) (b2 : Nat) (σ : MM) : Option MM :=
  mlet (zup σ b 0 (σ b2 0)) fun σ2 =>
  X0_copyFrom_L10 b b2 (fun σ15 => 
      mlet (zup σ15 b 5 (σ15 b2 5)) fun σ17 =>
      X0_copyFrom_L68 b b2 (fun σ23 => 
          X0_copyFrom_L89 b b2 (fun σ29 => 
              some σ29) 100000 0 σ23) 100000 0 σ17) 100000 0 σ2
def X4_current (σ : MM) : Option Int :=
  if σ 34 2 < 0 then
    some 0
  else
    if σ 34 2 < σ 34 1 then
      if σ 34 2 < 60 then
        gd (0 ≤ σ 35 (σ 34 2) ∧ σ 35 (σ 34 2) < 65536) <|
        some (σ 35 (σ 34 2))
      else
        some 0
    else
      some 0
def X4_digit (σ : MM) : Option Int :=
  (X4_current σ).bind fun r1 =>
  if r1 < 48 then
    some (-1)
  else
    if 57 < r1 then
      some (-1)
    else
      some (r1 - 48)
def X4_passes (a1 : Int) (σ : MM) : Option (Int × MM) :=
  (X4_current σ).bind fun r1 =>
  if r1 = a1 then
    gd (inR ((σ 34 2) + 1)) <|
    mlet (zup σ 34 2 ((σ 34 2) + 1)) fun σ7 =>
    some (1, σ7)
  else
    some (0, σ)
def X0_addStatement (b : Nat) (a1 : Int) (σ : MM) : Option MM :=
  if σ b 0 < 8 then
    gd (0 ≤ σ b 0 ∧ σ b 0 < 8) <|
    mlet (zup σ (b + 1) (σ b 0) a1) fun σ5 =>
    gd (0 ≤ σ5 b 0 ∧ σ5 b 0 < 8) <|
    mlet (zup σ5 (b + 2) (σ5 b 0) (σ5 b 0)) fun σ10 =>
    gd (0 ≤ σ10 b 0 ∧ σ10 b 0 < 8) <|
    mlet (zup σ10 (b + 3) (σ10 b 0) (σ10 b 0)) fun σ15 =>
    gd (inR ((σ15 b 0) + 1)) <|
    mlet (zup σ15 b 0 ((σ15 b 0) + 1)) fun σ19 =>
    some σ19
  else
    some σ
def X4_readStatement (b : Nat) (σ : MM) : Option (Int × MM) :=
  if σ b 0 < 8 then
    gd (inR ((σ 34 2) + 1)) <|
    mlet (zup σ 34 2 ((σ 34 2) + 1)) fun σ5 =>
    (X4_digit σ5).bind fun r7 =>
    if r7 < 1 then
      some (0, σ5)
    else
      gd (inR ((σ5 34 2) + 1)) <|
      mlet (zup σ5 34 2 ((σ5 34 2) + 1)) fun σ13 =>
      (X4_passes 59 σ13).bind fun (r15, σ17) =>
      if r15 = 0 then
        some (0, σ17)
      else
        (X0_addStatement b r7 σ17).bind fun σ22 =>
        some (1, σ22)
  else
    some (0, σ)
def X0_hasStatement (b : Nat) (a1 : Int) (σ : MM) : Option Int :=
  if a1 < 0 then
    some 0
  else
    if a1 < σ b 0 then
      some 1
    else
      some 0
def X0_positionOf (b : Nat) (a1 : Int) (σ : MM) : Option Int :=
  if a1 < 0 then
    some 0
  else
    if a1 < 8 then
      some (σ (b + 2) a1)
    else
      some 0
def X0_addDependence (b : Nat) (a1 : Int) (a2 : Int) (a3 : Int) (a4 : Int) (σ : MM) : Option MM :=
  if σ b 5 < 16 then
    gd (0 ≤ σ b 5 ∧ σ b 5 < 16) <|
    mlet (zup σ (b + 5) (σ b 5) a1) fun σ5 =>
    gd (0 ≤ σ5 b 5 ∧ σ5 b 5 < 16) <|
    mlet (zup σ5 (b + 6) (σ5 b 5) a2) fun σ9 =>
    gd (0 ≤ σ9 b 5 ∧ σ9 b 5 < 16) <|
    mlet (zup σ9 (b + 7) (σ9 b 5) a3) fun σ13 =>
    gd (0 ≤ σ13 b 5 ∧ σ13 b 5 < 16) <|
    mlet (zup σ13 (b + 8) (σ13 b 5) a4) fun σ17 =>
    gd (0 ≤ σ17 b 5 ∧ σ17 b 5 < 16) <|
    mlet (zup σ17 (b + 9) (σ17 b 5) 1) fun σ21 =>
    gd (inR ((σ21 b 5) + 1)) <|
    mlet (zup σ21 b 5 ((σ21 b 5) + 1)) fun σ25 =>
    some σ25
  else
    some σ
def X4_readDependence_J135 (b : Nat) (x2 : Int) (x3 : Int) (x4 : Int) (x5 : Int) (σ : MM) : Option (Int × MM) :=
  gd (inR ((σ 34 2) + 1)) <|
  mlet (zup σ 34 2 ((σ 34 2) + 1)) fun σ47 =>
  (X4_passes 59 σ47).bind fun (r49, σ51) =>
  if r49 = 0 then
    some (0, σ51)
  else
    (X0_addDependence b x2 x3 x4 x5 σ51).bind fun σ56 =>
    some (1, σ56)
def X4_readDependence (b : Nat) (a2 : Int) (σ : MM) : Option (Int × MM) :=
  if σ b 5 < 16 then
    gd (inR ((σ 34 2) + 1)) <|
    mlet (zup σ 34 2 ((σ 34 2) + 1)) fun σ5 =>
    (X4_digit σ5).bind fun r7 =>
    (X0_hasStatement b r7 σ5).bind fun r10 =>
    if r10 = 0 then
      some (0, σ5)
    else
      gd (inR ((σ5 34 2) + 1)) <|
      mlet (zup σ5 34 2 ((σ5 34 2) + 1)) fun σ16 =>
      (X4_passes 62 σ16).bind fun (r18, σ20) =>
      if r18 = 0 then
        some (0, σ20)
      else
        (X4_digit σ20).bind fun r23 =>
        (X0_hasStatement b r23 σ20).bind fun r26 =>
        if r26 = 0 then
          some (0, σ20)
        else
          gd (inR ((σ20 34 2) + 1)) <|
          mlet (zup σ20 34 2 ((σ20 34 2) + 1)) fun σ32 =>
          (X4_passes 58 σ32).bind fun (r34, σ36) =>
          if r34 = 0 then
            some (0, σ36)
          else
            (X4_digit σ36).bind fun r39 =>
            if r39 < 0 then
              some (0, σ36)
            else
              if 5 < r39 then
                some (0, σ36)
              else
                if r39 = 0 then
                  (X0_positionOf b r7 σ36).bind fun r57 =>
                  (X0_positionOf b r23 σ36).bind fun r60 =>
                  if r57 < r60 then
                    X4_readDependence_J135 b a2 r7 r23 r39 σ36
                  else
                    some (0, σ36)
                else
                  X4_readDependence_J135 b a2 r7 r23 r39 σ36
  else
    some (0, σ)
def X4_readCommand (b : Nat) (σ : MM) : Option (Int × MM) :=
  (X4_current σ).bind fun r1 =>
  if r1 = 97 then
    (X4_readDependence b 1 σ).bind fun (r5, σ7) =>
    some (r5, σ7)
  else
  if r1 = 102 then
    (X4_readDependence b 0 σ).bind fun (r10, σ12) =>
    some (r10, σ12)
  else
  if r1 = 111 then
    (X4_readDependence b 2 σ).bind fun (r15, σ17) =>
    some (r15, σ17)
  else
  if r1 = 115 then
    (X4_readStatement b σ).bind fun (r20, σ22) =>
    some (r20, σ22)
  else
    some (0, σ)
def X4_readInto_L7 (b : Nat) (k42 : MM → Option (Int × MM)) : Nat → Int → MM → Option (Int × MM)
  | 0, _, _ => none
  | n + 1, x2, σ =>
    if 60 < x2 then
      k42 σ
    else
      (X4_readCommand b σ).bind fun (r4, σ6) =>
      if r4 = 0 then
        some ((-1), σ6)
      else
        if σ6 34 2 < σ6 34 1 then
          X4_readInto_L7 b k42 n (x2 + 1) σ6
        else
          some (x2, σ6)
def X4_readInto (b : Nat) (σ : MM) : Option (Int × MM) :=
  mlet (zup σ 34 2 0) fun σ1 =>
  X4_readInto_L7 b (fun σ12 => 
      some ((-1), σ12)) 100000 1 σ1
def X5_execute (σ : MM) : Option (Int × Int × MM) :=
  (X0_copyFrom 23 1 σ).bind fun σ3 =>
  (X4_readInto 23 σ3).bind fun (r4, σ6) =>
  mlet (zup σ6 34 1 0) fun σ8 =>
  if r4 = (-1) then
    mlet (zup σ8 0 8 (σ8 34 2)) fun σ17 =>
    some (1, 0, σ17)
  else
    mlet (zup σ8 0 8 (-1)) fun σ11 =>
    (X0_copyFrom 1 23 σ11).bind fun σ15 =>
    some (0, r4, σ15)
def X5_errorPosition (σ : MM) : Option Int :=
  some (σ 0 8)
def X5_setCost (a1 : Int) (a2 : Int) (σ : MM) : Option (Int × Int × MM) :=
  (X0_hasStatement 1 a1 σ).bind fun r1 =>
  if r1 = 0 then
    some (3, 0, σ)
  else
    if a2 < 1 then
      some (1, 0, σ)
    else
      if 9 < a2 then
        some (1, 0, σ)
      else
        gd (0 ≤ a1 ∧ a1 < 8) <|
        mlet (zup σ 2 a1 a2) fun σ9 =>
        some (0, σ 2 a1, σ9)
def X5_set (a1 : Int) (a2 : Int) (σ : MM) : Option (Int × Int × MM) :=
  if a1 < 0 then
    some (1, 0, σ)
  else
    if a1 < 4 then
      if a2 < leI a1 then
        some (1, 0, σ)
      else
        if grI a1 < a2 then
          some (1, 0, σ)
        else
          mlet (zup σ 11 a1 a2) fun σ14 =>
          some (0, σ 11 a1, σ14)
    else
      some (1, 0, σ)
def X0_statementAt (b : Nat) (a1 : Int) (σ : MM) : Option Int :=
  if a1 < 0 then
    some 0
  else
    if a1 < 8 then
      some (σ (b + 3) a1)
    else
      some 0
def X0_isOrdered_L2 (b : Nat) (x1 : Int) (x2 : Int) (σ : MM) (k47 : Option Int) : Nat → Int → Option Int
  | 0, _ => none
  | n + 1, x3 =>
    if x3 < σ b 5 then
      gd (0 ≤ x3 ∧ x3 < 16) <|
      if σ (b + 8) x3 = 0 then
        if σ (b + 6) x3 = x1 then
          if σ (b + 7) x3 = x2 then
            some 1
          else
            X0_isOrdered_L2 b x1 x2 σ k47 n (x3 + 1)
        else
          X0_isOrdered_L2 b x1 x2 σ k47 n (x3 + 1)
      else
        X0_isOrdered_L2 b x1 x2 σ k47 n (x3 + 1)
    else
      k47
def X0_isOrdered (b : Nat) (a1 : Int) (a2 : Int) (σ : MM) : Option Int :=
  X0_isOrdered_L2 b a1 a2 σ (
      some 0) 100000 0
def X0_hasPosition (b : Nat) (a1 : Int) (σ : MM) : Option Int :=
  if a1 < 0 then
    some 0
  else
    if a1 < σ b 0 then
      some 1
    else
      some 0
def X0_place (b : Nat) (a1 : Int) (a2 : Int) (σ : MM) : Option MM :=
  (X0_hasStatement b a1 σ).bind fun r1 =>
  if r1 = 0 then
    some σ
  else
    (X0_hasPosition b a2 σ).bind fun r5 =>
    if r5 = 0 then
      some σ
    else
      gd (0 ≤ a2 ∧ a2 < 8) <|
      mlet (zup σ (b + 3) a2 a1) fun σ10 =>
      gd (0 ≤ a1 ∧ a1 < 8) <|
      mlet (zup σ10 (b + 2) a1 a2) fun σ13 =>
      some σ13
def X0_swap (b : Nat) (a1 : Int) (a2 : Int) (σ : MM) : Option MM :=
  (X0_statementAt b a1 σ).bind fun r1 =>
  (X0_statementAt b a2 σ).bind fun r4 =>
  (X0_place b r4 a1 σ).bind fun σ9 =>
  (X0_place b r1 a2 σ9).bind fun σ12 =>
  some σ12
def X5_exchange (a1 : Int) (σ : MM) : Option (Int × Int × MM) :=
  if a1 < 0 then
    some (3, 0, σ)
  else
    gd (inR ((σ 1 0) - 1)) <|
    if a1 < (σ 1 0) - 1 then
      (X0_statementAt 1 a1 σ).bind fun r5 =>
      (X0_statementAt 1 (a1 + 1) σ).bind fun r8 =>
      (X0_isOrdered 1 r5 r8 σ).bind fun r11 =>
      if r11 = 0 then
        (X0_swap 1 a1 (a1 + 1) σ).bind fun σ17 =>
        (X0_statementAt 1 a1 σ17).bind fun r18 =>
        some (0, r18, σ17)
      else
        some (2, 0, σ)
    else
      some (3, 0, σ)
def X0_hasDependence (b : Nat) (a1 : Int) (σ : MM) : Option Int :=
  if a1 < 0 then
    some 0
  else
    if a1 < σ b 5 then
      some 1
    else
      some 0
def X0_dropDependence_L20 (b : Nat) (k43 : MM → Option MM) : Nat → Int → MM → Option MM
  | 0, _, _ => none
  | n + 1, x2, σ =>
    if x2 < σ b 5 then
      (X0_copyDependence b b (x2 + 1) x2 σ).bind fun σ13 =>
      X0_dropDependence_L20 b k43 n (x2 + 1) σ13
    else
      k43 σ
def X0_dropDependence (b : Nat) (a1 : Int) (σ : MM) : Option MM :=
  (X0_hasDependence b a1 σ).bind fun r1 =>
  if r1 = 0 then
    some σ
  else
    gd (inR ((σ b 5) - 1)) <|
    mlet (zup σ b 5 ((σ b 5) - 1)) fun σ7 =>
    X0_dropDependence_L20 b (fun σ14 => 
        some σ14) 100000 a1 σ7
def X5_remove (a1 : Int) (σ : MM) : Option (Int × Int × MM) :=
  (X0_hasDependence 1 a1 σ).bind fun r1 =>
  if r1 = 0 then
    some (3, 0, σ)
  else
    (X0_dropDependence 1 a1 σ).bind fun σ7 =>
    some (0, σ7 1 5, σ7)
def X0_costOf (b : Nat) (a1 : Int) (σ : MM) : Option Int :=
  if a1 < 0 then
    some 0
  else
    if a1 < 8 then
      some (σ (b + 1) a1)
    else
      some 0
def X0_measureOffsets_L4 (b : Nat) (k49 : MM → Option MM) : Nat → Int → Int → MM → Option MM
  | 0, _, _, _ => none
  | n + 1, x1, x2, σ =>
    if x2 < σ b 0 then
      gd (0 ≤ x2 ∧ x2 < 8) <|
      (X0_hasStatement b (σ (b + 3) x2) σ).bind fun r5 =>
      if r5 = 0 then
        X0_measureOffsets_L4 b k49 n x1 (x2 + 1) σ
      else
        gd (0 ≤ σ (b + 3) x2 ∧ σ (b + 3) x2 < 8) <|
        mlet (zup σ (b + 4) (σ (b + 3) x2) x1) fun σ10 =>
        gd (inR (x1 + (σ10 (b + 1) (σ (b + 3) x2)))) <|
        X0_measureOffsets_L4 b k49 n (x1 + (σ10 (b + 1) (σ (b + 3) x2))) (x2 + 1) σ10
    else
      k49 σ
def X0_measureOffsets (b : Nat) (σ : MM) : Option MM :=
  X0_measureOffsets_L4 b (fun σ14 => 
      some σ14) 100000 0 0 σ
def X0_offsetOf (b : Nat) (a1 : Int) (σ : MM) : Option Int :=
  if a1 < 0 then
    some 0
  else
    if a1 < 8 then
      some (σ (b + 4) a1)
    else
      some 0
def X5_statement (a1 : Int) (a2 : Int) (σ : MM) : Option (Int × Int × MM) :=
  (X0_hasStatement 1 a1 σ).bind fun r1 =>
  if r1 = 0 then
    some (3, 0, σ)
  else
    if a2 = 0 then
      (X0_costOf 1 a1 σ).bind fun r6 =>
      some (0, r6, σ)
    else
    if a2 = 1 then
      (X0_positionOf 1 a1 σ).bind fun r10 =>
      some (0, r10, σ)
    else
    if a2 = 2 then
      (X0_measureOffsets 1 σ).bind fun σ16 =>
      (X0_offsetOf 1 a1 σ16).bind fun r17 =>
      some (0, r17, σ16)
    else
      some (1, 0, σ)
def X0_lagOf (b : Nat) (a1 : Int) (σ : MM) : Option Int :=
  (X0_hasDependence b a1 σ).bind fun r2 =>
  if r2 = 0 then
    some (σ (b + 10) 1)
  else
    gd (0 ≤ a1 ∧ a1 < 16) <|
    if σ (b + 5) a1 = 0 then
      (X0_costOf b (σ (b + 6) a1) σ).bind fun r10 =>
      gd (inR (r10 + (σ (b + 10) 1))) <|
      some (r10 + (σ (b + 10) 1))
    else
    if σ (b + 5) a1 = 2 then
      (X0_costOf b (σ (b + 6) a1) σ).bind fun r16 =>
      (X0_costOf b (σ (b + 7) a1) σ).bind fun r20 =>
      gd (inR ((r16 - r20) + 1)) <|
      gd (inR ((max 1 ((r16 - r20) + 1)) + (σ (b + 10) 1))) <|
      some ((max 1 ((r16 - r20) + 1)) + (σ (b + 10) 1))
    else
      gd (inR (1 + (σ (b + 10) 1))) <|
      some (1 + (σ (b + 10) 1))
def X5_dependence (a1 : Int) (a2 : Int) (σ : MM) : Option (Int × Int × MM) :=
  (X0_hasDependence 1 a1 σ).bind fun r1 =>
  if r1 = 0 then
    some (3, 0, σ)
  else
    if a2 = 0 then
      gd (0 ≤ a1 ∧ a1 < 16) <|
      some (0, σ 6 a1, σ)
    else
    if a2 = 1 then
      gd (0 ≤ a1 ∧ a1 < 16) <|
      some (0, σ 7 a1, σ)
    else
    if a2 = 2 then
      gd (0 ≤ a1 ∧ a1 < 16) <|
      some (0, σ 8 a1, σ)
    else
    if a2 = 3 then
      gd (0 ≤ a1 ∧ a1 < 16) <|
      some (0, σ 9 a1, σ)
    else
    if a2 = 4 then
      (X0_lagOf 1 a1 σ).bind fun r18 =>
      some (0, r18, σ)
    else
    if a2 = 5 then
      gd (0 ≤ a1 ∧ a1 < 16) <|
      if σ 10 a1 = 0 then
        some (0, 0, σ)
      else
        some (0, 1, σ)
    else
      some (1, 0, σ)
def X5_isMode (a1 : Int) (σ : MM) : Option Int :=
  if a1 = 0 then
    some 1
  else
    if a1 = 1 then
      some 1
    else
      some 0
def X2_isNode (a1 : Int) (a2 : Int) (σ : MM) : Option Int :=
  if a1 < 0 then
    some 0
  else
    if 5 < a1 then
      some 0
    else
      if a2 < 0 then
        some 0
      else
        if a2 < 8 then
          some 1
        else
          some 0
def X2_raise (a1 : Int) (a2 : Int) (a3 : Int) (σ : MM) : Option MM :=
  (X2_isNode a1 a2 σ).bind fun r1 =>
  if r1 = 0 then
    some σ
  else
    gd (0 ≤ (a1 * 8) + a2 ∧ (a1 * 8) + a2 < 48) <|
    gd (0 ≤ (a1 * 8) + a2 ∧ (a1 * 8) + a2 < 48) <|
    mlet (zup σ 37 ((a1 * 8) + a2) (max (σ 37 ((a1 * 8) + a2)) a3)) fun σ9 =>
    some σ9
def X2_sumAt (a1 : Int) (a2 : Int) (σ : MM) : Option Int :=
  (X2_isNode a1 a2 σ).bind fun r1 =>
  if r1 = 0 then
    some (-1)
  else
    gd (0 ≤ (a1 * 8) + a2 ∧ (a1 * 8) + a2 < 48) <|
    some (σ 37 ((a1 * 8) + a2))
def X2_followBody (b : Nat) (a2 : Int) (a3 : Int) (a4 : Int) (σ : MM) : Option MM :=
  gd (inR (a3 + 1)) <|
  (X0_hasPosition b (a3 + 1) σ).bind fun r2 =>
  if r2 = 0 then
    some σ
  else
    (X0_statementAt b a3 σ).bind fun r6 =>
    (X0_costOf b r6 σ).bind fun r9 =>
    gd (inR (a4 + r9)) <|
    (X2_raise a2 (a3 + 1) (a4 + r9) σ).bind fun σ15 =>
    some σ15
def X0_isSignalled (b : Nat) (a1 : Int) (σ : MM) : Option Int :=
  (X0_hasDependence b a1 σ).bind fun r1 =>
  if r1 = 0 then
    some 0
  else
    gd (0 ≤ a1 ∧ a1 < 16) <|
    if σ (b + 9) a1 = 0 then
      some 0
    else
      if 0 < σ (b + 8) a1 then
        some 1
      else
        some 0
def X2_followSignals_L11 (b : Nat) (x2 : Int) (x3 : Int) (x5 : Int) (x6 : Int) (k86 : MM → Option MM) : Nat → Int → MM → Option MM
  | 0, _, _ => none
  | n + 1, x7, σ =>
    if x7 < σ b 5 then
      if x7 = x2 then
        X2_followSignals_L11 b x2 x3 x5 x6 k86 n (x7 + 1) σ
      else
        gd (0 ≤ x7 ∧ x7 < 16) <|
        if σ (b + 6) x7 = x6 then
          (X0_isSignalled b x7 σ).bind fun r10 =>
          if r10 = 0 then
            X2_followSignals_L11 b x2 x3 x5 x6 k86 n (x7 + 1) σ
          else
            (X0_positionOf b (σ (b + 7) x7) σ).bind fun r16 =>
            (X0_lagOf b x7 σ).bind fun r19 =>
            gd (inR (x3 + (σ (b + 8) x7))) <|
            gd (inR (x5 + r19)) <|
            (X2_raise (x3 + (σ (b + 8) x7)) r16 (x5 + r19) σ).bind fun σ26 =>
            X2_followSignals_L11 b x2 x3 x5 x6 k86 n (x7 + 1) σ26
        else
          X2_followSignals_L11 b x2 x3 x5 x6 k86 n (x7 + 1) σ
    else
      k86 σ
def X2_followSignals (b : Nat) (a2 : Int) (a3 : Int) (a4 : Int) (a5 : Int) (σ : MM) : Option MM :=
  (X0_statementAt b a4 σ).bind fun r1 =>
  X2_followSignals_L11 b a2 a3 a5 r1 (fun σ27 => 
      some σ27) 100000 0 σ
def X2_followProcessor (b : Nat) (a2 : Int) (σ : MM) : Option MM :=
  gd (inR ((σ b 0) - 1)) <|
  (X2_sumAt a2 ((σ b 0) - 1) σ).bind fun r3 =>
  if r3 < 0 then
    some σ
  else
    (X0_statementAt b ((σ b 0) - 1) σ).bind fun r8 =>
    (X0_costOf b r8 σ).bind fun r11 =>
    gd (inR (a2 + (σ (b + 10) 2))) <|
    gd (inR (r3 + r11)) <|
    (X2_raise (a2 + (σ (b + 10) 2)) 0 (r3 + r11) σ).bind fun σ18 =>
    some σ18
def X2_greatestSum_L21 (b : Nat) (x2 : Int) (x3 : Int) (x4 : Int) (k45 : MM → Option (Int × MM)) : Nat → Int → MM → Option (Int × MM)
  | 0, _, _ => none
  | n + 1, x5, σ =>
    if x5 < 48 then
      gd (0 ≤ x5 ∧ x5 < 48) <|
      mlet (zup σ 37 x5 (-1)) fun σ9 =>
      X2_greatestSum_L21 b x2 x3 x4 k45 n (x5 + 1) σ9
    else
      k45 σ
def X2_greatestSum_L74 (b : Nat) (x2 : Int) (x3 : Int) (x4 : Int) (x5 : Int) (k127 : MM → Option (Int × MM)) : Nat → Int → MM → Option (Int × MM)
  | 0, _, _ => none
  | n + 1, x6, σ =>
    if x6 < σ b 0 then
      (X2_sumAt x5 x6 σ).bind fun r22 =>
      if r22 < 0 then
        X2_greatestSum_L74 b x2 x3 x4 x5 k127 n (x6 + 1) σ
      else
        (X2_followBody b x5 x6 r22 σ).bind fun σ28 =>
        (X2_followSignals b x2 x5 x6 r22 σ28).bind fun σ31 =>
        X2_greatestSum_L74 b x2 x3 x4 x5 k127 n (x6 + 1) σ31
    else
      k127 σ
def X2_greatestSum_L64 (b : Nat) (x2 : Int) (x3 : Int) (x4 : Int) (k145 : MM → Option (Int × MM)) : Nat → Int → MM → Option (Int × MM)
  | 0, _, _ => none
  | n + 1, x5, σ =>
    if x4 < x5 then
      k145 σ
    else
      X2_greatestSum_L74 b x2 x3 x4 x5 (fun σ32 => 
          if x3 = 1 then
            (X2_followProcessor b x5 σ32).bind fun σ37 =>
            gd (inR (x5 + 1)) <|
            X2_greatestSum_L64 b x2 x3 x4 k145 n (x5 + 1) σ37
          else
            gd (inR (x5 + 1)) <|
            X2_greatestSum_L64 b x2 x3 x4 k145 n (x5 + 1) σ32) 100000 0 σ
def X2_greatestSum (b : Nat) (a2 : Int) (a3 : Int) (σ : MM) : Option (Int × MM) :=
  (X0_hasDependence b a2 σ).bind fun r1 =>
  if r1 = 0 then
    some ((-1), σ)
  else
    gd (0 ≤ a2 ∧ a2 < 16) <|
    X2_greatestSum_L21 b a2 a3 (σ (b + 8) a2) (fun σ11 => 
        (X0_positionOf b (σ11 (b + 6) a2) σ11).bind fun r13 =>
        (X2_raise 0 r13 0 σ11).bind fun σ18 =>
        X2_greatestSum_L64 b a2 a3 (σ (b + 8) a2) (fun σ39 => 
            (X0_positionOf b (σ39 (b + 7) a2) σ39).bind fun r41 =>
            (X2_sumAt (σ (b + 8) a2) r41 σ39).bind fun r44 =>
            some (r44, σ39)) 100000 0 σ18) 100000 0 σ
def X5_lead (a1 : Int) (a2 : Int) (σ : MM) : Option (Int × Int × MM) :=
  (X0_hasDependence 1 a1 σ).bind fun r1 =>
  if r1 = 0 then
    some (3, 0, σ)
  else
    (X5_isMode a2 σ).bind fun r5 =>
    if r5 = 0 then
      some (1, 0, σ)
    else
      gd (0 ≤ a1 ∧ a1 < 16) <|
      if σ 9 a1 = 0 then
        some (2, 0, σ)
      else
        (X2_greatestSum 1 a1 a2 σ).bind fun (r12, σ14) =>
        some (0, r12, σ14)
def X5_isImplied (a1 : Int) (a2 : Int) (σ : MM) : Option (Int × MM) :=
  (X2_greatestSum 1 a1 a2 σ).bind fun (r1, σ3) =>
  (X0_lagOf 1 a1 σ3).bind fun r5 =>
  if r1 < r5 then
    some (0, σ3)
  else
    some (1, σ3)
def X5_eliminate_L36 (x1 : Int) (x3 : Int) (k98 : Int → MM → Option (Int × Int × MM)) : Nat → Int → Int → MM → Option (Int × Int × MM)
  | 0, _, _, _ => none
  | n + 1, x2, x4, σ =>
    if x4 < 0 then
      k98 x2 σ
    else
      gd (0 ≤ x4 ∧ x4 < 16) <|
      if σ 9 x4 = x3 then
        if σ 10 x4 = 0 then
          X5_eliminate_L36 x1 x3 k98 n x2 (x4 + (-1)) σ
        else
          (X5_isImplied x4 x1 σ).bind fun (r13, σ15) =>
          if r13 = 0 then
            X5_eliminate_L36 x1 x3 k98 n x2 (x4 + (-1)) σ15
          else
            mlet (zup σ15 10 x4 0) fun σ18 =>
            gd (inR (x2 + 1)) <|
            X5_eliminate_L36 x1 x3 k98 n (x2 + 1) (x4 + (-1)) σ18
      else
        X5_eliminate_L36 x1 x3 k98 n x2 (x4 + (-1)) σ
def X5_eliminate_L21 (x1 : Int) (k104 : Int → MM → Option (Int × Int × MM)) : Nat → Int → Int → MM → Option (Int × Int × MM)
  | 0, _, _, _ => none
  | n + 1, x2, x3, σ =>
    if 0 < x3 then
      gd (inR ((σ 1 5) - 1)) <|
      X5_eliminate_L36 x1 x3 (fun z22 σ23 => 
          X5_eliminate_L21 x1 k104 n z22 (x3 + (-1)) σ23) 100000 x2 ((σ 1 5) - 1) σ
    else
      k104 x2 σ
def X5_eliminate (a1 : Int) (σ : MM) : Option (Int × Int × MM) :=
  (X5_isMode a1 σ).bind fun r1 =>
  if r1 = 0 then
    some (1, 0, σ)
  else
    X5_eliminate_L21 a1 (fun z24 σ25 => 
        some (0, z24, σ25)) 100000 0 5 σ
def X5_keepAll_L4 (k46 : Int → MM → Option (Int × MM)) : Nat → Int → Int → MM → Option (Int × MM)
  | 0, _, _, _ => none
  | n + 1, x1, x2, σ =>
    if x2 < σ 1 5 then
      gd (0 ≤ x2 ∧ x2 < 16) <|
      if σ 10 x2 = 0 then
        mlet (zup σ 10 x2 1) fun σ6 =>
        gd (inR (x1 + 1)) <|
        X5_keepAll_L4 k46 n (x1 + 1) (x2 + 1) σ6
      else
        X5_keepAll_L4 k46 n x1 (x2 + 1) σ
    else
      k46 x1 σ
def X5_keepAll (σ : MM) : Option (Int × MM) :=
  X5_keepAll_L4 (fun z9 σ10 => 
      some (z9, σ10)) 100000 0 0 σ
def X0_nextOf_L4 (b : Nat) (x1 : Int) (σ : MM) (k48 : Int → Option Int) : Nat → Int → Int → Option Int
  | 0, _, _ => none
  | n + 1, x2, x3 =>
    if x3 < σ b 5 then
      gd (0 ≤ x3 ∧ x3 < 16) <|
      if σ (b + 8) x3 = 0 then
        if σ (b + 6) x3 = x1 then
          X0_nextOf_L4 b x1 σ k48 n (jor x2 (jshl 1 (σ (b + 7) x3))) (x3 + 1)
        else
          X0_nextOf_L4 b x1 σ k48 n x2 (x3 + 1)
      else
        X0_nextOf_L4 b x1 σ k48 n x2 (x3 + 1)
    else
      k48 x2
def X0_nextOf (b : Nat) (a1 : Int) (σ : MM) : Option Int :=
  X0_nextOf_L4 b a1 σ (fun z9 => 
      some z9) 100000 0 0
def X0_followersOf_L8 (b : Nat) (x1 : Int) (σ : MM) (k54 : Int → Option Int) : Nat → Int → Int → Option Int
  | 0, _, _ => none
  | n + 1, x2, x3 =>
    if x3 < σ b 0 then
      (X0_statementAt b x3 σ).bind fun r6 =>
      if r6 = x1 then
        (X0_nextOf b r6 σ).bind fun r10 =>
        X0_followersOf_L8 b x1 σ k54 n (jor x2 r10) (x3 + 1)
      else
        if jand (jshr x2 r6) 1 = 1 then
          (X0_nextOf b r6 σ).bind fun r14 =>
          X0_followersOf_L8 b x1 σ k54 n (jor x2 r14) (x3 + 1)
        else
          X0_followersOf_L8 b x1 σ k54 n x2 (x3 + 1)
    else
      k54 x2
def X0_followersOf (b : Nat) (a1 : Int) (σ : MM) : Option Int :=
  (X0_positionOf b a1 σ).bind fun r1 =>
  X0_followersOf_L8 b a1 σ (fun z17 => 
      some z17) 100000 0 r1
def X5_precedes (a1 : Int) (a2 : Int) (σ : MM) : Option (Int × Int × MM) :=
  (X0_hasStatement 1 a1 σ).bind fun r1 =>
  if r1 = 0 then
    some (3, 0, σ)
  else
    (X0_hasStatement 1 a2 σ).bind fun r5 =>
    if r5 = 0 then
      some (3, 0, σ)
    else
      (X0_followersOf 1 a1 σ).bind fun r9 =>
      if jand (jshr r9 a2) 1 = 1 then
        some (0, 1, σ)
      else
        some (0, 0, σ)
def X0_delayBy (b : Nat) (a1 : Int) (σ : MM) : Option Int :=
  (X0_hasDependence b a1 σ).bind fun r1 =>
  if r1 = 0 then
    some 0
  else
    gd (0 ≤ a1 ∧ a1 < 16) <|
    (X0_offsetOf b (σ (b + 6) a1) σ).bind fun r8 =>
    (X0_lagOf b a1 σ).bind fun r11 =>
    (X0_offsetOf b (σ (b + 7) a1) σ).bind fun r15 =>
    gd (inR ((r8 + r11) - r15)) <|
    if 0 < (r8 + r11) - r15 then
      if 0 < σ (b + 8) a1 then
        gd (inR ((((r8 + r11) - r15) + (σ (b + 8) a1)) - 1)) <|
        gd (0 ≤ (((r8 + r11) - r15) + (σ (b + 8) a1)) - 1 ∧ 0 < σ (b + 8) a1) <|
        some (((((r8 + r11) - r15) + (σ (b + 8) a1)) - 1) / (σ (b + 8) a1))
      else
        some 0
    else
      some 0
def X0_delayWithout_L8 (b : Nat) (x1 : Int) (k45 : Int → MM → Option (Int × MM)) : Nat → Int → Int → MM → Option (Int × MM)
  | 0, _, _, _ => none
  | n + 1, x2, x3, σ =>
    if x3 < σ b 5 then
      if x3 = x1 then
        X0_delayWithout_L8 b x1 k45 n x2 (x3 + 1) σ
      else
        (X0_isSignalled b x3 σ).bind fun r7 =>
        if r7 = 0 then
          X0_delayWithout_L8 b x1 k45 n x2 (x3 + 1) σ
        else
          (X0_delayBy b x3 σ).bind fun r11 =>
          X0_delayWithout_L8 b x1 k45 n (max x2 r11) (x3 + 1) σ
    else
      k45 x2 σ
def X0_delayWithout (b : Nat) (a1 : Int) (σ : MM) : Option (Int × MM) :=
  (X0_measureOffsets b σ).bind fun σ3 =>
  X0_delayWithout_L8 b a1 (fun z15 σ16 => 
      some (z15, σ16)) 100000 0 0 σ3
def X5_delay (σ : MM) : Option (Int × MM) :=
  (X0_delayWithout 1 (-1) σ).bind fun (r1, σ3) =>
  some (r1, σ3)
def X5_critical_L11 (x1 : Int) (k53 : MM → Option (Int × MM)) : Nat → Int → MM → Option (Int × MM)
  | 0, _, _ => none
  | n + 1, x2, σ =>
    if x2 < σ 1 5 then
      (X0_isSignalled 1 x2 σ).bind fun r7 =>
      if r7 = 0 then
        X5_critical_L11 x1 k53 n (x2 + 1) σ
      else
        (X0_delayWithout 1 x2 σ).bind fun (r11, σ13) =>
        if r11 < x1 then
          some (x2, σ13)
        else
          X5_critical_L11 x1 k53 n (x2 + 1) σ13
    else
      k53 σ
def X5_critical (σ : MM) : Option (Int × MM) :=
  (X0_delayWithout 1 (-1) σ).bind fun (r1, σ3) =>
  X5_critical_L11 r1 (fun σ16 => 
      some ((-1), σ16)) 100000 0 σ3
def X0_isLegalOrder_L2 (b : Nat) (σ : MM) (k50 : Option Int) : Nat → Int → Option Int
  | 0, _ => none
  | n + 1, x1 =>
    if x1 < σ b 5 then
      gd (0 ≤ x1 ∧ x1 < 16) <|
      if σ (b + 8) x1 = 0 then
        (X0_positionOf b (σ (b + 6) x1) σ).bind fun r7 =>
        (X0_positionOf b (σ (b + 7) x1) σ).bind fun r11 =>
        if r7 < r11 then
          X0_isLegalOrder_L2 b σ k50 n (x1 + 1)
        else
          some 0
      else
        X0_isLegalOrder_L2 b σ k50 n (x1 + 1)
    else
      k50
def X0_isLegalOrder (b : Nat) (σ : MM) : Option Int :=
  X0_isLegalOrder_L2 b σ (
      some 1) 100000 0
def X1_consider_L43 (k75 : MM → Option MM) : Nat → Int → MM → Option MM
  | 0, _, _ => none
  | n + 1, x2, σ =>
    if x2 < σ 39 0 then
      gd (0 ≤ x2 ∧ x2 < 8) <|
      mlet (zup σ 50 x2 (σ 42 x2)) fun σ17 =>
      X1_consider_L43 k75 n (x2 + 1) σ17
    else
      k75 σ
def X1_consider (σ : MM) : Option MM :=
  (X0_isLegalOrder 39 σ).bind fun r1 =>
  if r1 = 0 then
    some σ
  else
    (X0_delayWithout 39 (-1) σ).bind fun (r5, σ7) =>
    if σ7 38 2 = (-1) then
      mlet (zup σ7 38 2 r5) fun σ11 =>
      X1_consider_L43 (fun σ19 => 
          some σ19) 100000 0 σ11
    else
      if r5 < σ7 38 2 then
        mlet (zup σ7 38 2 r5) fun σ22 =>
        X1_consider_L43 (fun σ24 => 
            some σ24) 100000 0 σ22
      else
        some σ7
def X1_advance_L14 (x1 : Int) (k45 : Int → MM → Option (Int × MM)) : Nat → Int → MM → Option (Int × MM)
  | 0, _, _ => none
  | n + 1, x2, σ =>
    if x2 < 0 then
      k45 x2 σ
    else
      (X0_statementAt 39 x2 σ).bind fun r3 =>
      gd (inR (x2 + 1)) <|
      (X0_statementAt 39 (x2 + 1) σ).bind fun r7 =>
      if r7 < r3 then
        X1_advance_L14 x1 k45 n (x2 + (-1)) σ
      else
        k45 x2 σ
def X1_advance_L53 (x1 : Int) (x2 : Int) (k83 : Int → MM → Option (Int × MM)) : Nat → Int → MM → Option (Int × MM)
  | 0, _, _ => none
  | n + 1, x3, σ =>
    if x2 < x3 then
      (X0_statementAt 39 x3 σ).bind fun r17 =>
      (X0_statementAt 39 x2 σ).bind fun r20 =>
      if r17 < r20 then
        X1_advance_L53 x1 x2 k83 n (x3 + (-1)) σ
      else
        k83 x3 σ
    else
      k83 x3 σ
def X1_advance_L100 (k127 : MM → Option (Int × MM)) : Nat → Int → Int → MM → Option (Int × MM)
  | 0, _, _, _ => none
  | n + 1, x4, x5, σ =>
    if x4 < x5 then
      (X0_swap 39 x4 x5 σ).bind fun σ34 =>
      X1_advance_L100 k127 n (x4 + 1) (x5 + (-1)) σ34
    else
      k127 σ
def X1_advance (σ : MM) : Option (Int × MM) :=
  gd (inR ((σ 39 0) - 1)) <|
  gd (inR (((σ 39 0) - 1) - 1)) <|
  X1_advance_L14 ((σ 39 0) - 1) (fun z13 σ14 => 
      if z13 < 0 then
        some (0, σ14)
      else
        gd (inR ((σ 39 0) - 1)) <|
        gd (inR ((σ 39 0) - 1)) <|
        X1_advance_L53 ((σ 39 0) - 1) z13 (fun z26 σ27 => 
            (X0_swap 39 z13 z26 σ27).bind fun σ30 =>
            gd (inR (z13 + 1)) <|
            gd (inR ((σ 39 0) - 1)) <|
            X1_advance_L100 (fun σ37 => 
                some (1, σ37)) 100000 (z13 + 1) ((σ 39 0) - 1) σ30) 100000 ((σ 39 0) - 1) σ14) 100000 (((σ 39 0) - 1) - 1) σ
def X1_search_L10 (b : Nat) (k36 : MM → Option MM) : Nat → Int → MM → Option MM
  | 0, _, _ => none
  | n + 1, x2, σ =>
    if x2 < σ 39 0 then
      (X0_place 39 x2 x2 σ).bind fun σ8 =>
      X1_search_L10 b k36 n (x2 + 1) σ8
    else
      k36 σ
def X1_search_L45 (b : Nat) (k71 : MM → Option MM) : Nat → Int → Int → MM → Option MM
  | 0, _, _, _ => none
  | n + 1, x2, x3, σ =>
    if x2 = 0 then
      k71 σ
    else
      if x3 < 720 then
        (X1_consider σ).bind fun σ16 =>
        (X1_advance σ16).bind fun (r17, σ19) =>
        X1_search_L45 b k71 n r17 (x3 + 1) σ19
      else
        k71 σ
def X1_search (b : Nat) (σ : MM) : Option MM :=
  (X0_copyFrom 39 b σ).bind fun σ3 =>
  X1_search_L10 b (fun σ9 => 
      mlet (zup σ9 38 2 (-1)) fun σ10 =>
      X1_search_L45 b (fun σ21 => 
          some σ21) 100000 1 0 σ10) 100000 0 σ3
def X5_leastDelay (σ : MM) : Option (Int × Int × MM) :=
  if 6 < σ 1 0 then
    some (4, 0, σ)
  else
    (X1_search 1 σ).bind fun σ5 =>
    some (0, σ5 38 2, σ5)
def X5_reorder_L37 (k78 : Int → MM → Option (Int × Int × MM)) : Nat → Int → Int → MM → Option (Int × Int × MM)
  | 0, _, _, _ => none
  | n + 1, x1, x2, σ =>
    if x2 < σ 1 0 then
      gd (0 ≤ x2 ∧ x2 < 8) <|
      if σ 4 x2 = σ 50 x2 then
        X5_reorder_L37 k78 n x1 (x2 + 1) σ
      else
        gd (inR (x1 + 1)) <|
        X5_reorder_L37 k78 n (x1 + 1) (x2 + 1) σ
    else
      k78 x1 σ
def X5_reorder_L80 (x1 : Int) (k114 : MM → Option (Int × Int × MM)) : Nat → Int → MM → Option (Int × Int × MM)
  | 0, _, _ => none
  | n + 1, x2, σ =>
    if x2 < σ 1 0 then
      gd (0 ≤ x2 ∧ x2 < 8) <|
      (X0_place 1 (σ 50 x2) x2 σ).bind fun σ21 =>
      X5_reorder_L80 x1 k114 n (x2 + 1) σ21
    else
      k114 σ
def X5_reorder (σ : MM) : Option (Int × Int × MM) :=
  if 6 < σ 1 0 then
    some (4, 0, σ)
  else
    (X1_search 1 σ).bind fun σ5 =>
    X5_reorder_L37 (fun z13 σ14 => 
        X5_reorder_L80 z13 (fun σ22 => 
            some (0, z13, σ22)) 100000 0 σ14) 100000 0 0 σ5
def X3_firstFree_L4 (x1 : Int) (σ : MM) (k38 : Int → Option Int) : Nat → Int → Int → Option Int
  | 0, _, _ => none
  | n + 1, x2, x3 =>
    if x3 < x1 then
      if x3 < 6 then
        gd (0 ≤ x3 ∧ x3 < 6) <|
        gd (0 ≤ x2 ∧ x2 < 6) <|
        if σ 57 x3 < σ 57 x2 then
          X3_firstFree_L4 x1 σ k38 n x3 (x3 + 1)
        else
          X3_firstFree_L4 x1 σ k38 n x2 (x3 + 1)
      else
        k38 x2
    else
      k38 x2
def X3_firstFree (a1 : Int) (σ : MM) : Option Int :=
  X3_firstFree_L4 a1 σ (fun z8 => 
      some z8) 100000 0 1
def X3_choose (b : Nat) (a2 : Int) (a3 : Int) (σ : MM) : Option Int :=
  if a3 < 1 then
    some 0
  else
    if σ (b + 10) 0 < 1 then
      some 0
    else
      if σ (b + 10) 3 = 1 then
        gd (inR (a2 * a3)) <|
        gd (0 ≤ a2 * a3 ∧ 0 < σ (b + 10) 0) <|
        some ((a2 * a3) / (σ (b + 10) 0))
      else
      if σ (b + 10) 3 = 2 then
        (X3_firstFree a3 σ).bind fun r10 =>
        some r10
      else
        gd (0 ≤ a2 ∧ 0 < a3) <|
        some (a2 % a3)
def X3_isCell (a1 : Int) (a2 : Int) (σ : MM) : Option Int :=
  if a1 < 0 then
    some 0
  else
    if a1 < 8 then
      if a2 < 0 then
        some 0
      else
        if a2 < 40 then
          some 1
        else
          some 0
    else
      some 0
def X3_startOf (a1 : Int) (a2 : Int) (σ : MM) : Option Int :=
  (X3_isCell a1 a2 σ).bind fun r1 =>
  if r1 = 0 then
    some 0
  else
    gd (0 ≤ (a2 * 8) + a1 ∧ (a2 * 8) + a1 < 320) <|
    some (σ 52 ((a2 * 8) + a1))
def X3_latestSignal_L6 (b : Nat) (x2 : Int) (x3 : Int) (σ : MM) (k90 : Int → Option Int) : Nat → Int → Int → Option Int
  | 0, _, _ => none
  | n + 1, x4, x5 =>
    if x5 < σ b 5 then
      gd (0 ≤ x5 ∧ x5 < 16) <|
      if σ (b + 7) x5 = x2 then
        if x3 < σ (b + 8) x5 then
          X3_latestSignal_L6 b x2 x3 σ k90 n x4 (x5 + 1)
        else
          (X0_isSignalled b x5 σ).bind fun r8 =>
          if r8 = 0 then
            X3_latestSignal_L6 b x2 x3 σ k90 n x4 (x5 + 1)
          else
            gd (inR (x3 - (σ (b + 8) x5))) <|
            (X3_startOf (σ (b + 6) x5) (x3 - (σ (b + 8) x5)) σ).bind fun r15 =>
            (X0_lagOf b x5 σ).bind fun r18 =>
            gd (inR (r15 + r18)) <|
            X3_latestSignal_L6 b x2 x3 σ k90 n (max x4 (r15 + r18)) (x5 + 1)
      else
        X3_latestSignal_L6 b x2 x3 σ k90 n x4 (x5 + 1)
    else
      k90 x4
def X3_latestSignal (b : Nat) (a2 : Int) (a3 : Int) (σ : MM) : Option Int :=
  X3_latestSignal_L6 b a2 a3 σ (fun z23 => 
      some z23) 100000 0 0
def X3_keepStart (a1 : Int) (a2 : Int) (a3 : Int) (σ : MM) : Option MM :=
  (X3_isCell a1 a2 σ).bind fun r1 =>
  if r1 = 0 then
    some σ
  else
    gd (0 ≤ (a2 * 8) + a1 ∧ (a2 * 8) + a1 < 320) <|
    mlet (zup σ 52 ((a2 * 8) + a1) a3) fun σ6 =>
    some σ6
def X3_runIteration_J72 (b : Nat) (x2 : Int) (x3 : Int) (k14 : Int → MM → Option MM) (x4 : Int) (x5 : Int) (x6 : Int) (σ : MM) : Option MM :=
  gd (0 ≤ x3 ∧ x3 < 6) <|
  gd (inR ((σ 56 x3) + (x6 - (σ 57 x3)))) <|
  mlet (zup σ 56 x3 ((σ 56 x3) + (x6 - (σ 57 x3)))) fun σ19 =>
  (X0_costOf b x5 σ19).bind fun r21 =>
  gd (inR (x6 + r21)) <|
  mlet (zup σ19 57 x3 (x6 + r21)) fun σ25 =>
  (X3_keepStart x5 x2 x6 σ25).bind fun σ29 =>
  gd (inR (x4 + 1)) <|
  k14 (x4 + 1) σ29
def X3_runIteration_L14 (b : Nat) (x2 : Int) (x3 : Int) (k120 : MM → Option MM) : Nat → Int → MM → Option MM
  | 0, _, _ => none
  | n + 1, x4, σ =>
    if x4 < σ b 0 then
      (X0_statementAt b x4 σ).bind fun r5 =>
      gd (0 ≤ x3 ∧ x3 < 6) <|
      (X3_latestSignal b r5 x2 σ).bind fun r10 =>
      if x4 = 0 then
        if σ 54 x3 = 0 then
          mlet (zup σ 55 x3 (max (σ 57 x3) r10)) fun σ33 =>
          X3_runIteration_J72 b x2 x3 (X3_runIteration_L14 b x2 x3 k120 n) x4 r5 (max (σ 57 x3) r10) σ33
        else
          X3_runIteration_J72 b x2 x3 (X3_runIteration_L14 b x2 x3 k120 n) x4 r5 (max (σ 57 x3) r10) σ
      else
        X3_runIteration_J72 b x2 x3 (X3_runIteration_L14 b x2 x3 k120 n) x4 r5 (max (σ 57 x3) r10) σ
    else
      k120 σ
def X3_runIteration (b : Nat) (a2 : Int) (a3 : Int) (σ : MM) : Option MM :=
  if a3 < 0 then
    some σ
  else
    if a3 < 6 then
      X3_runIteration_L14 b a2 a3 (fun σ35 => 
          gd (inR ((σ35 54 a3) + 1)) <|
          mlet (zup σ35 54 a3 ((σ35 54 a3) + 1)) fun σ38 =>
          mlet (zup σ38 51 6 (max (σ38 51 6) (σ38 57 a3))) fun σ43 =>
          some σ43) 100000 0 σ
    else
      some σ
def X3_simulate_L7 (b : Nat) (x2 : Int) (k47 : MM → Option MM) : Nat → Int → MM → Option MM
  | 0, _, _ => none
  | n + 1, x3, σ =>
    if x3 < 6 then
      gd (0 ≤ x3 ∧ x3 < 6) <|
      mlet (zup σ 54 x3 0) fun σ5 =>
      mlet (zup σ5 55 x3 0) fun σ7 =>
      mlet (zup σ7 56 x3 0) fun σ9 =>
      mlet (zup σ9 57 x3 0) fun σ11 =>
      X3_simulate_L7 b x2 k47 n (x3 + 1) σ11
    else
      k47 σ
def X3_simulate_L49 (b : Nat) (x2 : Int) (k96 : MM → Option MM) : Nat → Int → MM → Option MM
  | 0, _, _ => none
  | n + 1, x3, σ =>
    if x3 < σ (b + 10) 0 then
      if x3 < 40 then
        (X3_choose b x3 x2 σ).bind fun r17 =>
        gd (0 ≤ x3 ∧ x3 < 40) <|
        mlet (zup σ 53 x3 r17) fun σ21 =>
        (X3_runIteration b x3 r17 σ21).bind fun σ25 =>
        X3_simulate_L49 b x2 k96 n (x3 + 1) σ25
      else
        k96 σ
    else
      k96 σ
def X3_simulate (b : Nat) (a2 : Int) (σ : MM) : Option MM :=
  mlet (zup σ 51 6 0) fun σ1 =>
  X3_simulate_L7 b a2 (fun σ13 => 
      X3_simulate_L49 b a2 (fun σ26 => 
          some σ26) 100000 0 σ13) 100000 0 σ1
def X5_simulate (σ : MM) : Option MM :=
  (X3_simulate 1 (σ 11 2) σ).bind fun σ4 =>
  some σ4
def X5_length (σ : MM) : Option (Int × MM) :=
  (X5_simulate σ).bind fun σ3 =>
  some (σ3 51 6, σ3)
def X0_hasIteration (b : Nat) (a1 : Int) (σ : MM) : Option Int :=
  if a1 < 0 then
    some 0
  else
    if a1 < σ (b + 10) 0 then
      some 1
    else
      some 0
def X5_start (a1 : Int) (a2 : Int) (σ : MM) : Option (Int × Int × MM) :=
  (X0_hasStatement 1 a1 σ).bind fun r1 =>
  if r1 = 0 then
    some (3, 0, σ)
  else
    (X0_hasIteration 1 a2 σ).bind fun r5 =>
    if r5 = 0 then
      some (3, 0, σ)
    else
      (X5_simulate σ).bind fun σ11 =>
      (X3_startOf a1 a2 σ11).bind fun r12 =>
      some (0, r12, σ11)
def X5_processor (a1 : Int) (σ : MM) : Option (Int × Int × MM) :=
  (X0_hasIteration 1 a1 σ).bind fun r1 =>
  if r1 = 0 then
    some (3, 0, σ)
  else
    (X5_simulate σ).bind fun σ7 =>
    gd (0 ≤ a1 ∧ a1 < 40) <|
    some (0, σ7 53 a1, σ7)
def X0_sumOfCosts_L4 (b : Nat) (σ : MM) (k27 : Int → Option Int) : Nat → Int → Int → Option Int
  | 0, _, _ => none
  | n + 1, x1, x2 =>
    if x2 < σ b 0 then
      gd (0 ≤ x2 ∧ x2 < 8) <|
      gd (inR (x1 + (σ (b + 1) x2))) <|
      X0_sumOfCosts_L4 b σ k27 n (x1 + (σ (b + 1) x2)) (x2 + 1)
    else
      k27 x1
def X0_sumOfCosts (b : Nat) (σ : MM) : Option Int :=
  X0_sumOfCosts_L4 b σ (fun z6 => 
      some z6) 100000 0 0
def X5_total (a1 : Int) (a2 : Int) (σ : MM) : Option (Int × Int × MM) :=
  if a1 < 0 then
    some (3, 0, σ)
  else
    if a1 < σ 11 2 then
      (X5_simulate σ).bind fun σ6 =>
      if a2 = 0 then
        gd (0 ≤ a1 ∧ a1 < 6) <|
        some (0, σ6 54 a1, σ6)
      else
      if a2 = 1 then
        gd (0 ≤ a1 ∧ a1 < 6) <|
        (X0_sumOfCosts 1 σ6).bind fun r13 =>
        gd (inR ((σ6 54 a1) * r13)) <|
        some (0, (σ6 54 a1) * r13, σ6)
      else
      if a2 = 2 then
        gd (0 ≤ a1 ∧ a1 < 6) <|
        some (0, σ6 56 a1, σ6)
      else
      if a2 = 3 then
        gd (0 ≤ a1 ∧ a1 < 6) <|
        some (0, σ6 57 a1, σ6)
      else
        some (1, 0, σ6)
    else
      some (3, 0, σ)
def X3_latestFirstStart_L4 (σ : MM) (k36 : Int → Option Int) : Nat → Int → Int → Option Int
  | 0, _, _ => none
  | n + 1, x1, x2 =>
    if x2 < 6 then
      gd (0 ≤ x2 ∧ x2 < 6) <|
      if 0 < σ 54 x2 then
        X3_latestFirstStart_L4 σ k36 n (max x1 (σ 55 x2)) (x2 + 1)
      else
        X3_latestFirstStart_L4 σ k36 n x1 (x2 + 1)
    else
      k36 x1
def X3_latestFirstStart (σ : MM) : Option Int :=
  X3_latestFirstStart_L4 σ (fun z7 => 
      some z7) 100000 0 0
def X5_fill (σ : MM) : Option (Int × MM) :=
  (X5_simulate σ).bind fun σ3 =>
  (X3_latestFirstStart σ3).bind fun r4 =>
  some (r4, σ3)
def X3_earliestEnd_L7 (σ : MM) (k39 : Int → Option Int) : Nat → Int → Int → Option Int
  | 0, _, _ => none
  | n + 1, x1, x2 =>
    if x2 < 6 then
      gd (0 ≤ x2 ∧ x2 < 6) <|
      if 0 < σ 54 x2 then
        X3_earliestEnd_L7 σ k39 n (min x1 (σ 57 x2)) (x2 + 1)
      else
        X3_earliestEnd_L7 σ k39 n x1 (x2 + 1)
    else
      k39 x1
def X3_earliestEnd (σ : MM) : Option Int :=
  X3_earliestEnd_L7 σ (fun z8 => 
      some z8) 100000 (σ 51 6) 0
def X5_drain (σ : MM) : Option (Int × MM) :=
  (X5_simulate σ).bind fun σ3 =>
  (X3_earliestEnd σ3).bind fun r5 =>
  gd (inR ((σ3 51 6) - r5)) <|
  some ((σ3 51 6) - r5, σ3)
def X5_greatestDivisor_L7 (σ : MM) (k34 : Int → Option Int) : Nat → Int → Int → Int → Option Int
  | 0, _, _, _ => none
  | n + 1, x2, x3, x4 =>
    if x4 < 47 then
      if x3 = 0 then
        k34 x2
      else
        gd (0 ≤ x2 ∧ 0 < x3) <|
        X5_greatestDivisor_L7 σ k34 n x3 (x2 % x3) (x4 + 1)
    else
      k34 x2
def X5_greatestDivisor (a1 : Int) (a2 : Int) (σ : MM) : Option Int :=
  X5_greatestDivisor_L7 σ (fun z5 => 
      some z5) 100000 a1 a2 0
def X5_speedUp_J20 (x1 : Int) (σ : MM) : Option (Int × Int × MM) :=
  if σ 1 0 = 0 then
    some (2, 0, σ)
  else
    (X5_simulate σ).bind fun σ6 =>
    (X0_sumOfCosts 1 σ6).bind fun r7 =>
    gd (inR (r7 * (σ6 11 0))) <|
    (X5_greatestDivisor (r7 * (σ6 11 0)) (σ6 51 6) σ6).bind fun r13 =>
    if r13 < 1 then
      some (0, 0, σ6)
    else
      if x1 = 0 then
        gd (0 ≤ r7 * (σ6 11 0) ∧ 0 < r13) <|
        some (0, (r7 * (σ6 11 0)) / r13, σ6)
      else
        gd (0 ≤ σ6 51 6 ∧ 0 < r13) <|
        some (0, (σ6 51 6) / r13, σ6)
def X5_speedUp (a1 : Int) (σ : MM) : Option (Int × Int × MM) :=
  if a1 = 0 then
    X5_speedUp_J20 a1 σ
  else
    if a1 = 1 then
      X5_speedUp_J20 a1 σ
    else
      some (1, 0, σ)
def X5_bestProcessors_L6 (k56 : Int → MM → Option (Int × MM)) : Nat → Int → Int → Int → MM → Option (Int × MM)
  | 0, _, _, _, _ => none
  | n + 1, x1, x2, x3, σ =>
    if 6 < x3 then
      k56 x1 σ
    else
      (X3_simulate 1 x3 σ).bind fun σ4 =>
      if x3 = 1 then
        X5_bestProcessors_L6 k56 n x3 (σ4 51 6) (x3 + 1) σ4
      else
        if σ4 51 6 < x2 then
          X5_bestProcessors_L6 k56 n x3 (σ4 51 6) (x3 + 1) σ4
        else
          X5_bestProcessors_L6 k56 n x1 x2 (x3 + 1) σ4
def X5_bestProcessors (σ : MM) : Option (Int × MM) :=
  X5_bestProcessors_L6 (fun z10 σ11 => 
      some (z10, σ11)) 100000 1 0 1 σ
def X5_signals_L4 (σ : MM) (k58 : Int → Option Int) : Nat → Int → Int → Option Int
  | 0, _, _ => none
  | n + 1, x1, x2 =>
    if x2 < σ 1 5 then
      (X0_isSignalled 1 x2 σ).bind fun r3 =>
      if r3 = 0 then
        X5_signals_L4 σ k58 n x1 (x2 + 1)
      else
        gd (0 ≤ x2 ∧ x2 < 16) <|
        gd (inR ((σ 11 0) - (σ 9 x2))) <|
        gd (inR (x1 + (max 0 ((σ 11 0) - (σ 9 x2))))) <|
        X5_signals_L4 σ k58 n (x1 + (max 0 ((σ 11 0) - (σ 9 x2)))) (x2 + 1)
    else
      k58 x1
def X5_signals (σ : MM) : Option Int :=
  X5_signals_L4 σ (fun z13 => 
      some z13) 100000 0 0
def X3_violates_L59 (b : Nat) (x3 : Int) (x4 : Int) (x5 : Int) (x6 : Int) (σ : MM) (k105 : Option Int) : Nat → Int → Option Int
  | 0, _ => none
  | n + 1, x7 =>
    gd (inR (x7 + x5)) <|
    if x7 + x5 < σ (b + 10) 0 then
      (X3_startOf x4 (x7 + x5) σ).bind fun r16 =>
      (X3_startOf x3 x7 σ).bind fun r19 =>
      gd (inR (r19 + x6)) <|
      if r16 < r19 + x6 then
        some 1
      else
        gd (inR (x7 + 1)) <|
        X3_violates_L59 b x3 x4 x5 x6 σ k105 n (x7 + 1)
    else
      k105
def X3_violates (b : Nat) (a2 : Int) (σ : MM) : Option Int :=
  (X0_hasDependence b a2 σ).bind fun r1 =>
  if r1 = 0 then
    some 0
  else
    gd (0 ≤ a2 ∧ a2 < 16) <|
    (X0_lagOf b a2 σ).bind fun r9 =>
    if σ (b + 8) a2 = 0 then
      gd (inR (r9 - (σ (b + 10) 1))) <|
      X3_violates_L59 b (σ (b + 6) a2) (σ (b + 7) a2) (σ (b + 8) a2) (r9 - (σ (b + 10) 1)) σ (
          some 0) 100000 0
    else
      X3_violates_L59 b (σ (b + 6) a2) (σ (b + 7) a2) (σ (b + 8) a2) (r9 - 0) σ (
          some 0) 100000 0
def X5_violated_L6 (k40 : MM → Option (Int × MM)) : Nat → Int → MM → Option (Int × MM)
  | 0, _, _ => none
  | n + 1, x1, σ =>
    if x1 < σ 1 5 then
      (X3_violates 1 x1 σ).bind fun r6 =>
      if r6 = 0 then
        X5_violated_L6 k40 n (x1 + 1) σ
      else
        some (x1, σ)
    else
      k40 σ
def X5_violated (σ : MM) : Option (Int × MM) :=
  (X5_simulate σ).bind fun σ3 =>
  X5_violated_L6 (fun σ10 => 
      some ((-1), σ10)) 100000 0 σ3
def X5_save (σ : MM) : Option (Int × MM) :=
  (X0_copyFrom 12 1 σ).bind fun σ3 =>
  mlet (zup σ3 0 7 1) fun σ4 =>
  some (σ4 1 5, σ4)
def X5_restore (σ : MM) : Option (Int × Int × MM) :=
  if σ 0 7 = 0 then
    some (2, 0, σ)
  else
    (X0_copyFrom 1 12 σ).bind fun σ5 =>
    some (0, σ5 1 5, σ5)
def X0_signalledDependences_L4 (b : Nat) (σ : MM) (k29 : Int → Option Int) : Nat → Int → Int → Option Int
  | 0, _, _ => none
  | n + 1, x1, x2 =>
    if x2 < σ b 5 then
      (X0_isSignalled b x2 σ).bind fun r3 =>
      if r3 = 0 then
        X0_signalledDependences_L4 b σ k29 n x1 (x2 + 1)
      else
        gd (inR (x1 + 1)) <|
        X0_signalledDependences_L4 b σ k29 n (x1 + 1) (x2 + 1)
    else
      k29 x1
def X0_signalledDependences (b : Nat) (σ : MM) : Option Int :=
  X0_signalledDependences_L4 b σ (fun z8 => 
      some z8) 100000 0 0
def X5_count_J25 (x1 : Int) (σ : MM) : Option (Int × Int × MM) :=
  if x1 = 0 then
    some (0, σ 1 0, σ)
  else
  if x1 = 1 then
    some (0, σ 1 5, σ)
  else
  if x1 = 2 then
    (X0_signalledDependences 1 σ).bind fun r7 =>
    some (0, r7, σ)
  else
  if x1 = 3 then
    some (0, σ 34 1, σ)
  else
  if x1 = 4 then
    (X0_sumOfCosts 1 σ).bind fun r13 =>
    some (0, r13, σ)
  else
    some (1, 0, σ)
def X5_count (a1 : Int) (σ : MM) : Option (Int × Int × MM) :=
  if a1 < 10 then
    X5_count_J25 a1 σ
  else
    if a1 < 14 then
      some (0, σ 11 (a1 - 10), σ)
    else
      X5_count_J25 a1 σ
def X6_thrown (σ : MM) : Option Int :=
  some (σ 58 3)
def X6_fails (a1 : Int) (σ : MM) : Option (Int × MM) :=
  mlet (zup σ 58 3 a1) fun σ1 =>
  some (0, σ1)
def X6_in (a1 : Int) (a2 : Int) (a3 : Int) (σ : MM) : Option Int :=
  if a1 < a2 then
    some 0
  else
    if a3 < a1 then
      some 0
    else
      some 1
def X6_isStatement (a1 : Int) (σ : MM) : Option Int :=
  gd (inR ((σ 59 0) - 1)) <|
  (X6_in a1 0 ((σ 59 0) - 1) σ).bind fun r3 =>
  some r3
def X6_isDependence (a1 : Int) (σ : MM) : Option Int :=
  gd (inR ((σ 59 1) - 1)) <|
  (X6_in a1 0 ((σ 59 1) - 1) σ).bind fun r3 =>
  some r3
def X6_at (a1 : Int) (a2 : Int) (σ : MM) : Option Int :=
  gd (inR ((30 + (5 * a1)) + a2)) <|
  some ((30 + (5 * a1)) + a2)
def X6_source (a1 : Int) (σ : MM) : Option Int :=
  (X6_at a1 1 σ).bind fun r1 =>
  gd (0 ≤ r1 ∧ r1 < 110) <|
  some (σ 59 r1)
def X6_target (a1 : Int) (σ : MM) : Option Int :=
  (X6_at a1 2 σ).bind fun r1 =>
  gd (0 ≤ r1 ∧ r1 < 110) <|
  some (σ 59 r1)
def X6_far (a1 : Int) (σ : MM) : Option Int :=
  (X6_at a1 3 σ).bind fun r1 =>
  gd (0 ≤ r1 ∧ r1 < 110) <|
  some (σ 59 r1)
def X6_isSignal (a1 : Int) (σ : MM) : Option Int :=
  (X6_at a1 4 σ).bind fun r1 =>
  gd (0 ≤ r1 ∧ r1 < 110) <|
  if σ 59 r1 = 1 then
    (X6_far a1 σ).bind fun r7 =>
    if 0 < r7 then
      some 1
    else
      some 0
  else
    some 0
def X6_cost (a1 : Int) (σ : MM) : Option Int :=
  gd (0 ≤ 10 + a1 ∧ 10 + a1 < 110) <|
  some (σ 59 (10 + a1))
def X6_placeOf_L2 (x1 : Int) (σ : MM) (k21 : Int → Option Int) : Nat → Int → Option Int
  | 0, _ => none
  | n + 1, x2 =>
    gd (0 ≤ 20 + x2 ∧ 20 + x2 < 110) <|
    if σ 59 (20 + x2) = x1 then
      k21 x2
    else
      X6_placeOf_L2 x1 σ k21 n (x2 + 1)
def X6_placeOf (a1 : Int) (σ : MM) : Option Int :=
  X6_placeOf_L2 a1 σ (fun z4 => 
      some z4) 100000 0
def X6_offset_L4 (x1 : Int) (σ : MM) (k39 : Int → Option Int) : Nat → Int → Int → Option Int
  | 0, _, _ => none
  | n + 1, x2, x3 =>
    gd (0 ≤ 20 + x3 ∧ 20 + x3 < 110) <|
    if σ 59 (20 + x3) = x1 then
      k39 x2
    else
      (X6_cost (σ 59 (20 + x3)) σ).bind fun r5 =>
      gd (inR (x2 + r5)) <|
      X6_offset_L4 x1 σ k39 n (x2 + r5) (x3 + 1)
def X6_offset (a1 : Int) (σ : MM) : Option Int :=
  X6_offset_L4 a1 σ (fun z9 => 
      some z9) 100000 0 0
def X6_bare (a1 : Int) (σ : MM) : Option Int :=
  (X6_source a1 σ).bind fun r1 =>
  (X6_cost r1 σ).bind fun r4 =>
  (X6_target a1 σ).bind fun r7 =>
  (X6_cost r7 σ).bind fun r10 =>
  (X6_at a1 0 σ).bind fun r13 =>
  gd (0 ≤ r13 ∧ r13 < 110) <|
  if σ 59 r13 = 0 then
    (X6_source a1 σ).bind fun r27 =>
    (X6_cost r27 σ).bind fun r30 =>
    some r30
  else
    (X6_at a1 0 σ).bind fun r19 =>
    gd (0 ≤ r19 ∧ r19 < 110) <|
    if σ 59 r19 = 1 then
      some 1
    else
      gd (inR ((r4 - r10) + 1)) <|
      if (r4 - r10) + 1 < 1 then
        some 1
      else
        some ((r4 - r10) + 1)
def X6_lag (a1 : Int) (σ : MM) : Option Int :=
  (X6_bare a1 σ).bind fun r1 =>
  gd (inR (r1 + (σ 59 3))) <|
  some (r1 + (σ 59 3))
def X6_byteOf (a1 : Int) (a2 : Int) (σ : MM) : Option Int :=
  some (jand (jushr a1 (24 - (8 * a2))) 255)
def X6_append_J43 (x1 : Int) (k9 : Int → Int → MM → Option (Int × MM)) (x2 : Int) (x3 : Int) (σ : MM) : Option (Int × MM) :=
  (X6_byteOf x1 x3 σ).bind fun r8 =>
  if r8 = 0 then
    gd (inR (x3 + 1)) <|
    k9 (x2 + 0) (x3 + 1) σ
  else
    gd (inR (x2 + 1)) <|
    gd (inR (x3 + 1)) <|
    k9 (x2 + 1) (x3 + 1) σ
def X6_append_L9 (x1 : Int) (k65 : Int → MM → Option (Int × MM)) : Nat → Int → Int → MM → Option (Int × MM)
  | 0, _, _, _ => none
  | n + 1, x2, x3, σ =>
    if x3 < 4 then
      (X6_byteOf x1 x3 σ).bind fun r4 =>
      if r4 = 0 then
        X6_append_J43 x1 (X6_append_L9 x1 k65 n) x2 x3 σ
      else
        (X6_byteOf x1 x3 σ).bind fun r15 =>
        (X6_in r15 33 126 σ).bind fun r18 =>
        if r18 = 0 then
          (X6_fails 1 σ).bind fun (r22, σ24) =>
          some (r22, σ24)
        else
          X6_append_J43 x1 (X6_append_L9 x1 k65 n) x2 x3 σ
    else
      k65 x2 σ
def X6_append_L84 (x1 : Int) (k127 : MM → Option (Int × MM)) : Nat → Int → MM → Option (Int × MM)
  | 0, _, _ => none
  | n + 1, x3, σ =>
    if x3 < 4 then
      (X6_byteOf x1 x3 σ).bind fun r32 =>
      if r32 = 0 then
        X6_append_L84 x1 k127 n (x3 + 1) σ
      else
        (X6_byteOf x1 x3 σ).bind fun r37 =>
        gd (0 ≤ σ 58 5 ∧ σ 58 5 < 60) <|
        mlet (zup σ 61 (σ 58 5) r37) fun σ41 =>
        gd (inR ((σ41 58 5) + 1)) <|
        mlet (zup σ41 58 5 ((σ41 58 5) + 1)) fun σ45 =>
        X6_append_L84 x1 k127 n (x3 + 1) σ45
    else
      k127 σ
def X6_append (a1 : Int) (σ : MM) : Option (Int × MM) :=
  mlet (zup σ 58 3 0) fun σ1 =>
  X6_append_L9 a1 (fun z26 σ27 => 
      gd (inR ((σ27 58 5) + z26)) <|
      if 60 < (σ27 58 5) + z26 then
        (X6_fails 2 σ27).bind fun (r49, σ51) =>
        some (r49, σ51)
      else
        X6_append_L84 a1 (fun σ47 => 
            some (σ47 58 5, σ47)) 100000 0 σ27) 100000 0 0 σ1
def X6_errorPosition (σ : MM) : Option (Int × MM) :=
  mlet (zup σ 58 3 0) fun σ1 =>
  some (σ1 58 7, σ1)
def X6_here (σ : MM) : Option Int :=
  if σ 58 6 < σ 58 5 then
    gd (0 ≤ σ 58 6 ∧ σ 58 6 < 60) <|
    some (σ 61 (σ 58 6))
  else
    some (-1)
def X6_skips (a1 : Int) (σ : MM) : Option (Int × MM) :=
  (X6_here σ).bind fun r1 =>
  if r1 = a1 then
    gd (inR ((σ 58 6) + 1)) <|
    mlet (zup σ 58 6 ((σ 58 6) + 1)) fun σ7 =>
    some (1, σ7)
  else
    some (0, σ)
def X6_takes (a1 : Int) (a2 : Int) (σ : MM) : Option (Int × MM) :=
  (X6_here σ).bind fun r1 =>
  gd (inR (48 + a1)) <|
  gd (inR (48 + a2)) <|
  (X6_in r1 (48 + a1) (48 + a2) σ).bind fun r6 =>
  if r6 = 0 then
    some (0, σ)
  else
    (X6_here σ).bind fun r10 =>
    gd (inR (r10 - 48)) <|
    mlet (zup σ 58 8 (r10 - 48)) fun σ14 =>
    gd (inR ((σ14 58 6) + 1)) <|
    mlet (zup σ14 58 6 ((σ14 58 6) + 1)) fun σ18 =>
    some (1, σ18)
def X6_standsAt (a1 : Int) (σ : MM) : Option Int :=
  if a1 < σ 59 0 then
    (X6_placeOf a1 σ).bind fun r3 =>
    some r3
  else
    some a1
def X6_readsStatement (a1 : Int) (a2 : Int) (σ : MM) : Option (Int × MM) :=
  if a1 = 8 then
    some (0, σ)
  else
    gd (inR ((σ 58 6) + 1)) <|
    mlet (zup σ 58 6 ((σ 58 6) + 1)) fun σ4 =>
    (X6_takes 1 9 σ4).bind fun (r6, σ8) =>
    if r6 = 0 then
      some (0, σ8)
    else
      (X6_skips 59 σ8).bind fun (r12, σ14) =>
      if r12 = 0 then
        some (0, σ14)
      else
        if a2 = 0 then
          some (1, σ14)
        else
          gd (0 ≤ 10 + a1 ∧ 10 + a1 < 110) <|
          mlet (zup σ14 59 (10 + a1) (σ8 58 8)) fun σ19 =>
          gd (0 ≤ 20 + a1 ∧ 20 + a1 < 110) <|
          mlet (zup σ19 59 (20 + a1) a1) fun σ22 =>
          gd (inR ((σ22 59 0) + 1)) <|
          mlet (zup σ22 59 0 ((σ22 59 0) + 1)) fun σ26 =>
          some (1, σ26)
def X6_readsDependence_J114 (x1 : Int) (x3 : Int) (x4 : Int) (x5 : Int) (x6 : Int) (σ : MM) : Option (Int × MM) :=
  (X6_here σ).bind fun r40 =>
  gd (inR ((σ 58 6) + 1)) <|
  mlet (zup σ 58 6 ((σ 58 6) + 1)) fun σ45 =>
  (X6_skips 59 σ45).bind fun (r47, σ49) =>
  if r47 = 0 then
    some (0, σ49)
  else
    if x4 = 0 then
      some (1, σ49)
    else
      (X6_at x3 0 σ49).bind fun r53 =>
      gd (0 ≤ r53 ∧ r53 < 110) <|
      mlet (zup σ49 59 r53 x1) fun σ57 =>
      (X6_at x3 1 σ57).bind fun r59 =>
      gd (0 ≤ r59 ∧ r59 < 110) <|
      mlet (zup σ57 59 r59 x5) fun σ63 =>
      (X6_at x3 2 σ63).bind fun r65 =>
      gd (0 ≤ r65 ∧ r65 < 110) <|
      mlet (zup σ63 59 r65 x6) fun σ69 =>
      (X6_at x3 3 σ69).bind fun r71 =>
      gd (0 ≤ r71 ∧ r71 < 110) <|
      gd (inR (r40 - 48)) <|
      mlet (zup σ69 59 r71 (r40 - 48)) fun σ76 =>
      (X6_at x3 4 σ76).bind fun r78 =>
      gd (0 ≤ r78 ∧ r78 < 110) <|
      mlet (zup σ76 59 r78 1) fun σ82 =>
      gd (inR ((σ82 59 1) + 1)) <|
      mlet (zup σ82 59 1 ((σ82 59 1) + 1)) fun σ86 =>
      some (1, σ86)
def X6_readsDependence (a1 : Int) (a2 : Int) (a3 : Int) (a4 : Int) (σ : MM) : Option (Int × MM) :=
  if a3 = 16 then
    some (0, σ)
  else
    gd (inR ((σ 58 6) + 1)) <|
    mlet (zup σ 58 6 ((σ 58 6) + 1)) fun σ4 =>
    gd (inR (a2 - 1)) <|
    (X6_takes 0 (a2 - 1) σ4).bind fun (r7, σ9) =>
    if r7 = 0 then
      some (0, σ9)
    else
      (X6_skips 62 σ9).bind fun (r13, σ15) =>
      if r13 = 0 then
        some (0, σ15)
      else
        (X6_takes 0 (a2 - 1) σ15).bind fun (r18, σ20) =>
        if r18 = 0 then
          some (0, σ20)
        else
          (X6_skips 58 σ20).bind fun (r24, σ26) =>
          if r24 = 0 then
            some (0, σ26)
          else
            (X6_here σ26).bind fun r29 =>
            (X6_in r29 48 53 σ26).bind fun r32 =>
            if r32 = 0 then
              some (0, σ26)
            else
              (X6_here σ26).bind fun r36 =>
              if r36 = 48 then
                (X6_standsAt (σ9 58 8) σ26).bind fun r88 =>
                (X6_standsAt (σ20 58 8) σ26).bind fun r91 =>
                if r88 < r91 then
                  X6_readsDependence_J114 a1 a3 a4 (σ9 58 8) (σ20 58 8) σ26
                else
                  some (0, σ26)
              else
                X6_readsDependence_J114 a1 a3 a4 (σ9 58 8) (σ20 58 8) σ26
def X6_commands_J103 (x1 : Int) (k22 : Int → Int → Int → MM → Option (Int × MM)) (k135 : Int → MM → Option (Int × MM)) (x2 : Int) (x3 : Int) (x4 : Int) (y0 : Int) (σ : MM) : Option (Int × MM) :=
  (X6_readsDependence y0 x2 x3 x1 σ).bind fun (r21, σ23) =>
  if r21 = 0 then
    some ((-1), σ23)
  else
    if σ23 58 6 < σ23 58 5 then
      gd (inR (x3 + 1)) <|
      gd (inR (x4 + 1)) <|
      k22 x2 (x3 + 1) (x4 + 1) σ23
    else
      gd (inR (x4 + 1)) <|
      k135 (x4 + 1) σ23
def X6_commands_J75 (x1 : Int) (k22 : Int → Int → Int → MM → Option (Int × MM)) (k135 : Int → MM → Option (Int × MM)) (x2 : Int) (x3 : Int) (x4 : Int) (σ : MM) : Option (Int × MM) :=
  (X6_here σ).bind fun r13 =>
  if r13 = 102 then
    X6_commands_J103 x1 k22 k135 x2 x3 x4 0 σ
  else
    (X6_here σ).bind fun r17 =>
    if r17 = 97 then
      X6_commands_J103 x1 k22 k135 x2 x3 x4 1 σ
    else
      X6_commands_J103 x1 k22 k135 x2 x3 x4 2 σ
def X6_commands_L22 (x1 : Int) (k135 : Int → MM → Option (Int × MM)) : Nat → Int → Int → Int → MM → Option (Int × MM)
  | 0, _, _, _, _ => none
  | n + 1, x2, x3, x4, σ =>
    (X6_here σ).bind fun r5 =>
    if r5 = 115 then
      (X6_readsStatement x2 x1 σ).bind fun (r41, σ43) =>
      if r41 = 0 then
        some ((-1), σ43)
      else
        if σ43 58 6 < σ43 58 5 then
          gd (inR (x2 + 1)) <|
          gd (inR (x4 + 1)) <|
          X6_commands_L22 x1 k135 n (x2 + 1) x3 (x4 + 1) σ43
        else
          gd (inR (x4 + 1)) <|
          k135 (x4 + 1) σ43
    else
      (X6_here σ).bind fun r9 =>
      if r9 = 102 then
        X6_commands_J75 x1 (X6_commands_L22 x1 k135 n) k135 x2 x3 x4 σ
      else
        (X6_here σ).bind fun r32 =>
        if r32 = 97 then
          X6_commands_J75 x1 (X6_commands_L22 x1 k135 n) k135 x2 x3 x4 σ
        else
          (X6_here σ).bind fun r36 =>
          if r36 = 111 then
            X6_commands_J75 x1 (X6_commands_L22 x1 k135 n) k135 x2 x3 x4 σ
          else
            some ((-1), σ)
def X6_commands (a1 : Int) (σ : MM) : Option (Int × MM) :=
  mlet (zup σ 58 6 0) fun σ3 =>
  X6_commands_L22 a1 (fun z52 σ53 => 
      some (z52, σ53)) 100000 (σ 59 0) (σ 59 1) 0 σ3
def X6_execute_J24 (x1 : Int) (y0 : Int) (σ : MM) : Option (Int × MM) :=
  mlet (zup σ 58 7 y0) fun σ8 =>
  if x1 < 0 then
    mlet (zup σ8 58 5 0) fun σ11 =>
    if x1 < 0 then
      (X6_fails 1 σ11).bind fun (r14, σ16) =>
      some (r14, σ16)
    else
      some (x1, σ11)
  else
    (X6_commands 1 σ8).bind fun (r18, σ20) =>
    mlet (zup σ20 58 5 0) fun σ22 =>
    if x1 < 0 then
      (X6_fails 1 σ22).bind fun (r25, σ27) =>
      some (r25, σ27)
    else
      some (x1, σ22)
def X6_execute (σ : MM) : Option (Int × MM) :=
  mlet (zup σ 58 3 0) fun σ1 =>
  (X6_commands 0 σ1).bind fun (r3, σ5) =>
  if r3 < 0 then
    X6_execute_J24 r3 (σ5 58 6) σ5
  else
    X6_execute_J24 r3 (-1) σ5
def X6_setCost (a1 : Int) (a2 : Int) (σ : MM) : Option (Int × MM) :=
  mlet (zup σ 58 3 0) fun σ1 =>
  (X6_isStatement a1 σ1).bind fun r3 =>
  if r3 = 0 then
    (X6_fails 1 σ1).bind fun (r21, σ23) =>
    some (r21, σ23)
  else
    (X6_in a2 1 9 σ1).bind fun r7 =>
    if r7 = 0 then
      (X6_fails 2 σ1).bind fun (r17, σ19) =>
      some (r17, σ19)
    else
      (X6_cost a1 σ1).bind fun r11 =>
      gd (0 ≤ 10 + a1 ∧ 10 + a1 < 110) <|
      mlet (zup σ1 59 (10 + a1) a2) fun σ15 =>
      some (r11, σ15)
def X6_maySet (a1 : Int) (a2 : Int) (σ : MM) : Option Int :=
  if a1 = 0 then
    (X6_in a2 1 40 σ).bind fun r2 =>
    some r2
  else
  if a1 = 1 then
    (X6_in a2 0 5 σ).bind fun r6 =>
    some r6
  else
  if a1 = 2 then
    (X6_in a2 1 6 σ).bind fun r10 =>
    some r10
  else
  if a1 = 3 then
    (X6_in a2 0 2 σ).bind fun r14 =>
    some r14
  else
    some 0
def X6_set (a1 : Int) (a2 : Int) (σ : MM) : Option (Int × MM) :=
  mlet (zup σ 58 3 0) fun σ1 =>
  (X6_maySet a1 a2 σ1).bind fun r3 =>
  if r3 = 0 then
    (X6_fails 1 σ1).bind fun (r11, σ13) =>
    some (r11, σ13)
  else
    gd (0 ≤ 2 + a1 ∧ 2 + a1 < 110) <|
    mlet (zup σ1 59 (2 + a1) a2) fun σ9 =>
    some (σ1 59 (2 + a1), σ9)
def X6_binds_L2 (x1 : Int) (x2 : Int) (σ : MM) (k46 : Option Int) : Nat → Int → Option Int
  | 0, _ => none
  | n + 1, x3 =>
    if x3 < σ 59 1 then
      (X6_far x3 σ).bind fun r3 =>
      if r3 = 0 then
        (X6_source x3 σ).bind fun r7 =>
        if r7 = x1 then
          (X6_target x3 σ).bind fun r11 =>
          if r11 = x2 then
            some 1
          else
            X6_binds_L2 x1 x2 σ k46 n (x3 + 1)
        else
          X6_binds_L2 x1 x2 σ k46 n (x3 + 1)
      else
        X6_binds_L2 x1 x2 σ k46 n (x3 + 1)
    else
      k46
def X6_binds (a1 : Int) (a2 : Int) (σ : MM) : Option Int :=
  X6_binds_L2 a1 a2 σ (
      some 0) 100000 0
def X6_exchange (a1 : Int) (σ : MM) : Option (Int × MM) :=
  mlet (zup σ 58 3 0) fun σ1 =>
  gd (inR ((σ1 59 0) - 2)) <|
  (X6_in a1 0 ((σ1 59 0) - 2) σ1).bind fun r5 =>
  if r5 = 0 then
    (X6_fails 1 σ1).bind fun (r25, σ27) =>
    some (r25, σ27)
  else
    gd (0 ≤ 20 + a1 ∧ 20 + a1 < 110) <|
    gd (0 ≤ (20 + a1) + 1 ∧ (20 + a1) + 1 < 110) <|
    (X6_binds (σ1 59 (20 + a1)) (σ1 59 ((20 + a1) + 1)) σ1).bind fun r13 =>
    if r13 = 0 then
      mlet (zup σ1 59 (20 + a1) (σ1 59 ((20 + a1) + 1))) fun σ17 =>
      mlet (zup σ17 59 ((20 + a1) + 1) (σ1 59 (20 + a1))) fun σ19 =>
      some (σ1 59 ((20 + a1) + 1), σ19)
    else
      (X6_fails 2 σ1).bind fun (r21, σ23) =>
      some (r21, σ23)
def X6_remove_L35 (k69 : MM → Option (Int × MM)) : Nat → Int → MM → Option (Int × MM)
  | 0, _, _ => none
  | n + 1, x2, σ =>
    (X6_at (σ 59 1) 0 σ).bind fun r15 =>
    if x2 < r15 then
      gd (0 ≤ x2 + 5 ∧ x2 + 5 < 110) <|
      gd (0 ≤ x2 ∧ x2 < 110) <|
      mlet (zup σ 59 x2 (σ 59 (x2 + 5))) fun σ22 =>
      X6_remove_L35 k69 n (x2 + 1) σ22
    else
      k69 σ
def X6_remove (a1 : Int) (σ : MM) : Option (Int × MM) :=
  mlet (zup σ 58 3 0) fun σ1 =>
  (X6_isDependence a1 σ1).bind fun r3 =>
  if r3 = 0 then
    (X6_fails 1 σ1).bind fun (r26, σ28) =>
    some (r26, σ28)
  else
    gd (inR ((σ1 59 1) - 1)) <|
    mlet (zup σ1 59 1 ((σ1 59 1) - 1)) fun σ9 =>
    (X6_at a1 0 σ9).bind fun r11 =>
    X6_remove_L35 (fun σ24 => 
        some (σ24 59 1, σ24)) 100000 r11 σ9
def X6_statement (a1 : Int) (a2 : Int) (σ : MM) : Option (Int × MM) :=
  mlet (zup σ 58 3 0) fun σ1 =>
  (X6_isStatement a1 σ1).bind fun r3 =>
  if r3 = 0 then
    (X6_fails 1 σ1).bind fun (r23, σ25) =>
    some (r23, σ25)
  else
    if a2 = 0 then
      (X6_cost a1 σ1).bind fun r8 =>
      some (r8, σ1)
    else
    if a2 = 1 then
      (X6_placeOf a1 σ1).bind fun r12 =>
      some (r12, σ1)
    else
    if a2 = 2 then
      (X6_offset a1 σ1).bind fun r16 =>
      some (r16, σ1)
    else
      (X6_fails 2 σ1).bind fun (r19, σ21) =>
      some (r19, σ21)
def X6_dependence (a1 : Int) (a2 : Int) (σ : MM) : Option (Int × MM) :=
  mlet (zup σ 58 3 0) fun σ1 =>
  (X6_isDependence a1 σ1).bind fun r3 =>
  if r3 = 0 then
    (X6_fails 1 σ1).bind fun (r30, σ32) =>
    some (r30, σ32)
  else
    (X6_in a2 0 5 σ1).bind fun r7 =>
    if r7 = 0 then
      (X6_fails 2 σ1).bind fun (r26, σ28) =>
      some (r26, σ28)
    else
      if a2 < 4 then
        (X6_at a1 a2 σ1).bind fun r21 =>
        gd (0 ≤ r21 ∧ r21 < 110) <|
        some (σ1 59 r21, σ1)
      else
        if a2 = 4 then
          (X6_lag a1 σ1).bind fun r18 =>
          some (r18, σ1)
        else
          (X6_at a1 4 σ1).bind fun r13 =>
          gd (0 ≤ r13 ∧ r13 < 110) <|
          some (σ1 59 r13, σ1)
def X6_reaches (a1 : Int) (a2 : Int) (σ : MM) : Option MM :=
  gd (0 ≤ a1 ∧ a1 < 48) <|
  if σ 62 a1 < a2 then
    mlet (zup σ 62 a1 a2) fun σ7 =>
    some σ7
  else
    mlet (zup σ 62 a1 (σ 62 a1)) fun σ5 =>
    some σ5
def X6_goesOn_L106 (x1 : Int) (x3 : Int) (x4 : Int) (x6 : Int) (x7 : Int) (k197 : MM → Option MM) : Nat → Int → MM → Option MM
  | 0, _, _ => none
  | n + 1, x8, σ =>
    if x8 < σ 59 1 then
      if x8 = x3 then
        X6_goesOn_L106 x1 x3 x4 x6 x7 k197 n (x8 + 1) σ
      else
        (X6_isSignal x8 σ).bind fun r11 =>
        if r11 = 0 then
          X6_goesOn_L106 x1 x3 x4 x6 x7 k197 n (x8 + 1) σ
        else
          (X6_source x8 σ).bind fun r15 =>
          if r15 = x7 then
            (X6_far x8 σ).bind fun r19 =>
            gd (inR (x1 + r19)) <|
            if x4 < x1 + r19 then
              X6_goesOn_L106 x1 x3 x4 x6 x7 k197 n (x8 + 1) σ
            else
              (X6_far x8 σ).bind fun r24 =>
              (X6_target x8 σ).bind fun r27 =>
              (X6_placeOf r27 σ).bind fun r30 =>
              (X6_lag x8 σ).bind fun r33 =>
              gd (inR ((8 * (x1 + r24)) + r30)) <|
              gd (inR (x6 + r33)) <|
              (X6_reaches ((8 * (x1 + r24)) + r30) (x6 + r33) σ).bind fun σ40 =>
              X6_goesOn_L106 x1 x3 x4 x6 x7 k197 n (x8 + 1) σ40
          else
            X6_goesOn_L106 x1 x3 x4 x6 x7 k197 n (x8 + 1) σ
    else
      k197 σ
def X6_goesOn (a1 : Int) (a2 : Int) (a3 : Int) (a4 : Int) (a5 : Int) (σ : MM) : Option MM :=
  gd (0 ≤ (8 * a1) + a2 ∧ (8 * a1) + a2 < 48) <|
  gd (0 ≤ 20 + a2 ∧ 20 + a2 < 110) <|
  if a2 + 1 < σ 59 0 then
    (X6_cost (σ 59 (20 + a2)) σ).bind fun r56 =>
    gd (inR ((σ 62 ((8 * a1) + a2)) + r56)) <|
    (X6_reaches (((8 * a1) + a2) + 1) ((σ 62 ((8 * a1) + a2)) + r56) σ).bind fun σ62 =>
    X6_goesOn_L106 a1 a3 a4 (σ 62 ((8 * a1) + a2)) (σ 59 (20 + a2)) (fun σ63 => 
        some σ63) 100000 0 σ62
  else
    if a5 = 1 then
      gd (inR (a1 + (σ 59 4))) <|
      if a4 < a1 + (σ 59 4) then
        X6_goesOn_L106 a1 a3 a4 (σ 62 ((8 * a1) + a2)) (σ 59 (20 + a2)) (fun σ45 => 
            some σ45) 100000 0 σ
      else
        (X6_cost (σ 59 (20 + a2)) σ).bind fun r47 =>
        gd (inR (8 * (a1 + (σ 59 4)))) <|
        gd (inR ((σ 62 ((8 * a1) + a2)) + r47)) <|
        (X6_reaches (8 * (a1 + (σ 59 4))) ((σ 62 ((8 * a1) + a2)) + r47) σ).bind fun σ54 =>
        X6_goesOn_L106 a1 a3 a4 (σ 62 ((8 * a1) + a2)) (σ 59 (20 + a2)) (fun σ55 => 
            some σ55) 100000 0 σ54
    else
      X6_goesOn_L106 a1 a3 a4 (σ 62 ((8 * a1) + a2)) (σ 59 (20 + a2)) (fun σ41 => 
          some σ41) 100000 0 σ
def X6_leadOf_L2 (x1 : Int) (x2 : Int) (k21 : MM → Option (Int × MM)) : Nat → Int → MM → Option (Int × MM)
  | 0, _, _ => none
  | n + 1, x3, σ =>
    if x3 < 48 then
      gd (0 ≤ x3 ∧ x3 < 48) <|
      mlet (zup σ 62 x3 (-1)) fun σ3 =>
      X6_leadOf_L2 x1 x2 k21 n (x3 + 1) σ3
    else
      k21 σ
def X6_leadOf_L50 (x1 : Int) (x2 : Int) (x3 : Int) (k96 : MM → Option (Int × MM)) : Nat → Int → MM → Option (Int × MM)
  | 0, _, _ => none
  | n + 1, x4, σ =>
    if x4 < σ 59 0 then
      gd (0 ≤ (8 * x3) + x4 ∧ (8 * x3) + x4 < 48) <|
      if σ 62 ((8 * x3) + x4) < 0 then
        X6_leadOf_L50 x1 x2 x3 k96 n (x4 + 1) σ
      else
        (X6_far x1 σ).bind fun r24 =>
        (X6_goesOn x3 x4 x1 r24 x2 σ).bind fun σ29 =>
        X6_leadOf_L50 x1 x2 x3 k96 n (x4 + 1) σ29
    else
      k96 σ
def X6_leadOf_L38 (x1 : Int) (x2 : Int) (k102 : MM → Option (Int × MM)) : Nat → Int → MM → Option (Int × MM)
  | 0, _, _ => none
  | n + 1, x3, σ =>
    (X6_far x1 σ).bind fun r15 =>
    if r15 < x3 then
      k102 σ
    else
      X6_leadOf_L50 x1 x2 x3 (fun σ30 => 
          gd (inR (x3 + 1)) <|
          X6_leadOf_L38 x1 x2 k102 n (x3 + 1) σ30) 100000 0 σ
def X6_leadOf (a1 : Int) (a2 : Int) (σ : MM) : Option (Int × MM) :=
  X6_leadOf_L2 a1 a2 (fun σ5 => 
      (X6_source a1 σ5).bind fun r6 =>
      (X6_placeOf r6 σ5).bind fun r9 =>
      gd (0 ≤ r9 ∧ r9 < 48) <|
      mlet (zup σ5 62 r9 0) fun σ13 =>
      X6_leadOf_L38 a1 a2 (fun σ32 => 
          (X6_far a1 σ32).bind fun r33 =>
          (X6_target a1 σ32).bind fun r36 =>
          (X6_placeOf r36 σ32).bind fun r39 =>
          gd (0 ≤ (8 * r33) + r39 ∧ (8 * r33) + r39 < 48) <|
          some (σ32 62 ((8 * r33) + r39), σ32)) 100000 0 σ13) 100000 0 σ
def X6_lead (a1 : Int) (a2 : Int) (σ : MM) : Option (Int × MM) :=
  mlet (zup σ 58 3 0) fun σ1 =>
  (X6_isDependence a1 σ1).bind fun r3 =>
  if r3 = 0 then
    (X6_fails 1 σ1).bind fun (r27, σ29) =>
    some (r27, σ29)
  else
    (X6_in a2 0 1 σ1).bind fun r7 =>
    if r7 = 0 then
      (X6_fails 2 σ1).bind fun (r23, σ25) =>
      some (r23, σ25)
    else
      (X6_far a1 σ1).bind fun r11 =>
      if r11 = 0 then
        (X6_fails 3 σ1).bind fun (r19, σ21) =>
        some (r19, σ21)
      else
        (X6_leadOf a1 a2 σ1).bind fun (r15, σ17) =>
        some (r15, σ17)
def X6_eliminate_L38 (x1 : Int) (x3 : Int) (k99 : Int → MM → Option (Int × MM)) : Nat → Int → Int → MM → Option (Int × MM)
  | 0, _, _, _ => none
  | n + 1, x2, x4, σ =>
    if x4 < 0 then
      k99 x2 σ
    else
      (X6_isSignal x4 σ).bind fun r10 =>
      if r10 = 0 then
        X6_eliminate_L38 x1 x3 k99 n x2 (x4 + (-1)) σ
      else
        (X6_far x4 σ).bind fun r14 =>
        if r14 = x3 then
          (X6_leadOf x4 x1 σ).bind fun (r18, σ20) =>
          (X6_lag x4 σ20).bind fun r22 =>
          if r18 < r22 then
            X6_eliminate_L38 x1 x3 k99 n x2 (x4 + (-1)) σ20
          else
            (X6_at x4 4 σ20).bind fun r26 =>
            gd (0 ≤ r26 ∧ r26 < 110) <|
            mlet (zup σ20 59 r26 0) fun σ30 =>
            gd (inR (x2 + 1)) <|
            X6_eliminate_L38 x1 x3 k99 n (x2 + 1) (x4 + (-1)) σ30
        else
          X6_eliminate_L38 x1 x3 k99 n x2 (x4 + (-1)) σ
def X6_eliminate_L24 (x1 : Int) (k105 : Int → MM → Option (Int × MM)) : Nat → Int → Int → MM → Option (Int × MM)
  | 0, _, _, _ => none
  | n + 1, x2, x3, σ =>
    if 0 < x3 then
      gd (inR ((σ 59 1) - 1)) <|
      X6_eliminate_L38 x1 x3 (fun z34 σ35 => 
          X6_eliminate_L24 x1 k105 n z34 (x3 + (-1)) σ35) 100000 x2 ((σ 59 1) - 1) σ
    else
      k105 x2 σ
def X6_eliminate (a1 : Int) (σ : MM) : Option (Int × MM) :=
  mlet (zup σ 58 3 0) fun σ1 =>
  (X6_in a1 0 1 σ1).bind fun r3 =>
  if r3 = 0 then
    (X6_fails 1 σ1).bind fun (r38, σ40) =>
    some (r38, σ40)
  else
    X6_eliminate_L24 a1 (fun z36 σ37 => 
        some (z36, σ37)) 100000 0 5 σ1
def X6_keepAll_L9 (k51 : Int → MM → Option (Int × MM)) : Nat → Int → Int → MM → Option (Int × MM)
  | 0, _, _, _ => none
  | n + 1, x1, x2, σ =>
    if x2 < σ 59 1 then
      (X6_at x2 4 σ).bind fun r5 =>
      gd (0 ≤ r5 ∧ r5 < 110) <|
      (X6_at x2 4 σ).bind fun r10 =>
      gd (0 ≤ r10 ∧ r10 < 110) <|
      mlet (zup σ 59 r10 1) fun σ14 =>
      gd (inR (x1 + (1 - (σ 59 r5)))) <|
      X6_keepAll_L9 k51 n (x1 + (1 - (σ 59 r5))) (x2 + 1) σ14
    else
      k51 x1 σ
def X6_keepAll (σ : MM) : Option (Int × MM) :=
  mlet (zup σ 58 3 0) fun σ1 =>
  X6_keepAll_L9 (fun z17 σ18 => 
      some (z17, σ18)) 100000 0 0 σ1
def X6_precedes_J89 (x1 : Int) (x2 : Int) (x4 : Int) (k49 : Int → Int → MM → Option (Int × MM)) (x3 : Int) (x5 : Int) (y0 : Int) (σ : MM) : Option (Int × MM) :=
  (X6_far x5 σ).bind fun r16 =>
  if r16 = 0 then
    if y0 = 0 then
      gd (inR (x5 + 1)) <|
      k49 (jor x3 0) (x5 + 1) σ
    else
      (X6_target x5 σ).bind fun r23 =>
      gd (inR (x5 + 1)) <|
      k49 (jor x3 (jshl 1 r23)) (x5 + 1) σ
  else
    gd (inR (x5 + 1)) <|
    k49 (jor x3 0) (x5 + 1) σ
def X6_precedes_L49 (x1 : Int) (x2 : Int) (x4 : Int) (k126 : Int → MM → Option (Int × MM)) : Nat → Int → Int → MM → Option (Int × MM)
  | 0, _, _, _ => none
  | n + 1, x3, x5, σ =>
    if x5 < σ 59 1 then
      (X6_source x5 σ).bind fun r12 =>
      if r12 = x1 then
        X6_precedes_J89 x1 x2 x4 (X6_precedes_L49 x1 x2 x4 k126 n) x3 x5 1 σ
      else
        (X6_source x5 σ).bind fun r27 =>
        if jand (jshr x3 r27) 1 = 1 then
          X6_precedes_J89 x1 x2 x4 (X6_precedes_L49 x1 x2 x4 k126 n) x3 x5 1 σ
        else
          X6_precedes_J89 x1 x2 x4 (X6_precedes_L49 x1 x2 x4 k126 n) x3 x5 0 σ
    else
      k126 x3 σ
def X6_precedes_L39 (x1 : Int) (x2 : Int) (k132 : Int → MM → Option (Int × MM)) : Nat → Int → Int → MM → Option (Int × MM)
  | 0, _, _, _ => none
  | n + 1, x3, x4, σ =>
    if x4 < 8 then
      X6_precedes_L49 x1 x2 x4 (fun z31 σ32 => 
          X6_precedes_L39 x1 x2 k132 n z31 (x4 + 1) σ32) 100000 x3 0 σ
    else
      k132 x3 σ
def X6_precedes (a1 : Int) (a2 : Int) (σ : MM) : Option (Int × MM) :=
  (X6_isStatement a1 σ).bind fun r1 =>
  if r1 = 0 then
    mlet (zup σ 58 3 1) fun σ5 =>
    if 0 < σ5 58 3 then
      some (0, σ5)
    else
      X6_precedes_L39 a1 a2 (fun z33 σ34 => 
          if jand (jshr z33 a2) 1 = 1 then
            some (1, σ34)
          else
            some (0, σ34)) 100000 0 0 σ5
  else
    (X6_isStatement a2 σ).bind fun r36 =>
    if r36 = 0 then
      mlet (zup σ 58 3 1) fun σ40 =>
      if 0 < σ40 58 3 then
        some (0, σ40)
      else
        X6_precedes_L39 a1 a2 (fun z44 σ45 => 
            if jand (jshr z44 a2) 1 = 1 then
              some (1, σ45)
            else
              some (0, σ45)) 100000 0 0 σ40
    else
      mlet (zup σ 58 3 0) fun σ47 =>
      if 0 < σ47 58 3 then
        some (0, σ47)
      else
        X6_precedes_L39 a1 a2 (fun z51 σ52 => 
            if jand (jshr z51 a2) 1 = 1 then
              some (1, σ52)
            else
              some (0, σ52)) 100000 0 0 σ47
def X6_delayBut_J82 (x1 : Int) (k4 : Int → Int → Option Int) (x2 : Int) (x3 : Int) (y0 : Int) (σ : MM) : Option Int :=
  if x2 < y0 then
    gd (inR (x3 + 1)) <|
    k4 y0 (x3 + 1)
  else
    gd (inR (x3 + 1)) <|
    k4 x2 (x3 + 1)
def X6_delayBut_L4 (x1 : Int) (σ : MM) (k103 : Int → Option Int) : Nat → Int → Int → Option Int
  | 0, _, _ => none
  | n + 1, x2, x3 =>
    if x3 < σ 59 1 then
      if x3 = x1 then
        X6_delayBut_L4 x1 σ k103 n x2 (x3 + 1)
      else
        (X6_isSignal x3 σ).bind fun r4 =>
        if r4 = 0 then
          X6_delayBut_L4 x1 σ k103 n x2 (x3 + 1)
        else
          (X6_source x3 σ).bind fun r8 =>
          (X6_offset r8 σ).bind fun r11 =>
          (X6_lag x3 σ).bind fun r14 =>
          (X6_target x3 σ).bind fun r17 =>
          (X6_offset r17 σ).bind fun r20 =>
          gd (inR ((r11 + r14) - r20)) <|
          if 0 < (r11 + r14) - r20 then
            (X6_far x3 σ).bind fun r25 =>
            (X6_far x3 σ).bind fun r28 =>
            gd (inR ((((r11 + r14) - r20) + r25) - 1)) <|
            gd (0 ≤ (((r11 + r14) - r20) + r25) - 1 ∧ 0 < r28) <|
            X6_delayBut_J82 x1 (X6_delayBut_L4 x1 σ k103 n) x2 x3 (((((r11 + r14) - r20) + r25) - 1) / r28) σ
          else
            X6_delayBut_J82 x1 (X6_delayBut_L4 x1 σ k103 n) x2 x3 0 σ
    else
      k103 x2
def X6_delayBut (a1 : Int) (σ : MM) : Option Int :=
  X6_delayBut_L4 a1 σ (fun z37 => 
      some z37) 100000 0 0
def X6_delay (σ : MM) : Option (Int × MM) :=
  mlet (zup σ 58 3 0) fun σ1 =>
  (X6_delayBut (-1) σ1).bind fun r3 =>
  some (r3, σ1)
def X6_critical_L7 (k46 : MM → Option (Int × MM)) : Nat → Int → MM → Option (Int × MM)
  | 0, _, _ => none
  | n + 1, x1, σ =>
    if x1 < σ 59 1 then
      (X6_isSignal x1 σ).bind fun r5 =>
      if r5 = 0 then
        X6_critical_L7 k46 n (x1 + 1) σ
      else
        (X6_delayBut x1 σ).bind fun r9 =>
        (X6_delayBut (-1) σ).bind fun r12 =>
        if r9 < r12 then
          some (x1, σ)
        else
          X6_critical_L7 k46 n (x1 + 1) σ
    else
      k46 σ
def X6_critical (σ : MM) : Option (Int × MM) :=
  mlet (zup σ 58 3 0) fun σ1 =>
  X6_critical_L7 (fun σ16 => 
      some ((-1), σ16)) 100000 0 σ1
def X6_isAllowed_L2 (σ : MM) (k49 : Option Int) : Nat → Int → Option Int
  | 0, _ => none
  | n + 1, x1 =>
    if x1 < σ 59 1 then
      (X6_far x1 σ).bind fun r3 =>
      if r3 = 0 then
        (X6_source x1 σ).bind fun r7 =>
        (X6_placeOf r7 σ).bind fun r10 =>
        (X6_target x1 σ).bind fun r13 =>
        (X6_placeOf r13 σ).bind fun r16 =>
        if r10 < r16 then
          X6_isAllowed_L2 σ k49 n (x1 + 1)
        else
          some 0
      else
        X6_isAllowed_L2 σ k49 n (x1 + 1)
    else
      k49
def X6_isAllowed (σ : MM) : Option Int :=
  X6_isAllowed_L2 σ (
      some 1) 100000 0
def X6_orders_L81 (frec : Int → Int → MM → Option MM) (x1 : Int) (x2 : Int) (k127 : MM → Option MM) : Nat → Int → MM → Option MM
  | 0, _, _ => none
  | n + 1, x3, σ =>
    if x3 < σ 59 0 then
      if jand (jshr x2 x3) 1 = 0 then
        gd (0 ≤ 20 + x1 ∧ 20 + x1 < 110) <|
        mlet (zup σ 59 (20 + x1) x3) fun σ7 =>
        (frec (x1 + 1) (jor x2 (jshl 1 x3)) σ7).bind fun σ11 =>
        X6_orders_L81 frec x1 x2 k127 n (x3 + 1) σ11
      else
        X6_orders_L81 frec x1 x2 k127 n (x3 + 1) σ
    else
      k127 σ
def X6_orders_L47 (frec : Int → Int → MM → Option MM) (k78 : MM → Option MM) : Nat → Int → MM → Option MM
  | 0, _, _ => none
  | n + 1, x3, σ =>
    if x3 < σ 59 0 then
      gd (0 ≤ 20 + x3 ∧ 20 + x3 < 110) <|
      gd (0 ≤ x3 ∧ x3 < 8) <|
      mlet (zup σ 64 x3 (σ 59 (20 + x3))) fun σ29 =>
      X6_orders_L47 frec k78 n (x3 + 1) σ29
    else
      k78 σ
def X6_orders : Nat → Int → Int → MM → Option MM
  | 0, _, _, _ => none
  | n + 1, a1, a2, σ =>
    if a1 = σ 59 0 then
      (X6_isAllowed σ).bind fun r13 =>
      if r13 = 0 then
        some σ
      else
        if σ 58 12 < 0 then
          (X6_delayBut (-1) σ).bind fun r19 =>
          mlet (zup σ 58 12 r19) fun σ22 =>
          X6_orders_L47 (X6_orders n) (fun σ31 => 
              some σ31) 100000 0 σ22
        else
          (X6_delayBut (-1) σ).bind fun r32 =>
          if r32 < σ 58 12 then
            (X6_delayBut (-1) σ).bind fun r37 =>
            mlet (zup σ 58 12 r37) fun σ40 =>
            X6_orders_L47 (X6_orders n) (fun σ42 => 
                some σ42) 100000 0 σ40
          else
            some σ
    else
      X6_orders_L81 (X6_orders n) a1 a2 (fun σ12 => 
          some σ12) 100000 0 σ
def X6_searches_L2 (k29 : MM → Option MM) : Nat → Int → MM → Option MM
  | 0, _, _ => none
  | n + 1, x1, σ =>
    if x1 < 8 then
      gd (0 ≤ 20 + x1 ∧ 20 + x1 < 110) <|
      gd (0 ≤ x1 ∧ x1 < 8) <|
      mlet (zup σ 63 x1 (σ 59 (20 + x1))) fun σ5 =>
      X6_searches_L2 k29 n (x1 + 1) σ5
    else
      k29 σ
def X6_searches_L42 (k69 : MM → Option MM) : Nat → Int → MM → Option MM
  | 0, _, _ => none
  | n + 1, x1, σ =>
    if x1 < 8 then
      gd (0 ≤ x1 ∧ x1 < 8) <|
      mlet (zup σ 59 (20 + x1) (σ 63 x1)) fun σ16 =>
      X6_searches_L42 k69 n (x1 + 1) σ16
    else
      k69 σ
def X6_searches (σ : MM) : Option MM :=
  X6_searches_L2 (fun σ7 => 
      mlet (zup σ7 58 12 (-1)) fun σ8 =>
      (X6_orders 8 0 0 σ8).bind fun σ12 =>
      X6_searches_L42 (fun σ18 => 
          some σ18) 100000 0 σ12) 100000 0 σ
def X6_leastDelay (σ : MM) : Option (Int × MM) :=
  mlet (zup σ 58 3 0) fun σ1 =>
  if 6 < σ1 59 0 then
    (X6_fails 1 σ1).bind fun (r9, σ11) =>
    some (r9, σ11)
  else
    (X6_searches σ1).bind fun σ7 =>
    some (σ7 58 12, σ7)
def X6_reorder_L30 (k84 : Int → MM → Option (Int × MM)) : Nat → Int → Int → MM → Option (Int × MM)
  | 0, _, _, _ => none
  | n + 1, x1, x2, σ =>
    if x2 < σ 59 0 then
      gd (0 ≤ x2 ∧ x2 < 8) <|
      mlet (zup σ 59 (20 + x2) (σ 64 x2)) fun σ12 =>
      if σ12 63 x2 = σ12 64 x2 then
        X6_reorder_L30 k84 n (x1 + 0) (x2 + 1) σ12
      else
        gd (inR (x1 + 1)) <|
        X6_reorder_L30 k84 n (x1 + 1) (x2 + 1) σ12
    else
      k84 x1 σ
def X6_reorder (σ : MM) : Option (Int × MM) :=
  mlet (zup σ 58 3 0) fun σ1 =>
  if 6 < σ1 59 0 then
    (X6_fails 1 σ1).bind fun (r20, σ22) =>
    some (r20, σ22)
  else
    (X6_searches σ1).bind fun σ7 =>
    X6_reorder_L30 (fun z18 σ19 => 
        some (z18, σ19)) 100000 0 0 σ7
def X6_chosen_L48 (σ : MM) (k85 : Int → Option Int) : Nat → Int → Int → Option Int
  | 0, _, _ => none
  | n + 1, x2, x3 =>
    if x3 < σ 59 4 then
      gd (0 ≤ x3 ∧ x3 < 6) <|
      gd (0 ≤ x2 ∧ x2 < 6) <|
      if σ 67 x3 < σ 67 x2 then
        X6_chosen_L48 σ k85 n x3 (x3 + 1)
      else
        X6_chosen_L48 σ k85 n x2 (x3 + 1)
    else
      k85 x2
def X6_chosen (a1 : Int) (σ : MM) : Option Int :=
  if σ 59 5 = 0 then
    gd (0 ≤ a1 ∧ 0 < σ 59 4) <|
    some (a1 % (σ 59 4))
  else
    if σ 59 5 = 1 then
      gd (inR (a1 * (σ 59 4))) <|
      gd (0 ≤ a1 * (σ 59 4) ∧ 0 < σ 59 2) <|
      some ((a1 * (σ 59 4)) / (σ 59 2))
    else
      X6_chosen_L48 σ (fun z12 => 
          some z12) 100000 0 1
def X6_executes_L11 (x1 : Int) (x2 : Int) (x3 : Int) (k105 : Int → MM → Option MM) : Nat → Int → Int → MM → Option MM
  | 0, _, _, _ => none
  | n + 1, x4, x5, σ =>
    if x5 < σ 59 1 then
      (X6_isSignal x5 σ).bind fun r5 =>
      if r5 = 0 then
        X6_executes_L11 x1 x2 x3 k105 n x4 (x5 + 1) σ
      else
        (X6_target x5 σ).bind fun r9 =>
        if r9 = x2 then
          (X6_far x5 σ).bind fun r13 =>
          if x1 < r13 then
            X6_executes_L11 x1 x2 x3 k105 n x4 (x5 + 1) σ
          else
            (X6_source x5 σ).bind fun r17 =>
            (X6_far x5 σ).bind fun r20 =>
            gd (0 ≤ ((40 * r17) + x1) - r20 ∧ ((40 * r17) + x1) - r20 < 320) <|
            (X6_lag x5 σ).bind fun r25 =>
            gd (inR ((σ 65 (((40 * r17) + x1) - r20)) + r25)) <|
            if x4 < (σ 65 (((40 * r17) + x1) - r20)) + r25 then
              X6_executes_L11 x1 x2 x3 k105 n ((σ 65 (((40 * r17) + x1) - r20)) + r25) (x5 + 1) σ
            else
              X6_executes_L11 x1 x2 x3 k105 n x4 (x5 + 1) σ
        else
          X6_executes_L11 x1 x2 x3 k105 n x4 (x5 + 1) σ
    else
      k105 x4 σ
def X6_executes (a1 : Int) (a2 : Int) (a3 : Int) (σ : MM) : Option MM :=
  gd (0 ≤ a3 ∧ a3 < 6) <|
  X6_executes_L11 a1 a2 a3 (fun z30 σ31 => 
      gd (0 ≤ (40 * a2) + a1 ∧ (40 * a2) + a1 < 320) <|
      mlet (zup σ31 65 ((40 * a2) + a1) z30) fun σ33 =>
      gd (inR ((σ33 71 a3) + (z30 - (σ33 67 a3)))) <|
      mlet (zup σ33 71 a3 ((σ33 71 a3) + (z30 - (σ33 67 a3)))) fun σ38 =>
      (X6_cost a2 σ38).bind fun r41 =>
      gd (inR ((σ38 70 a3) + r41)) <|
      mlet (zup σ38 70 a3 ((σ38 70 a3) + r41)) fun σ45 =>
      (X6_cost a2 σ45).bind fun r47 =>
      gd (inR (z30 + r47)) <|
      mlet (zup σ45 67 a3 (z30 + r47)) fun σ51 =>
      some σ51) 100000 (σ 67 a3) 0 σ
def X6_runs_L2 (k49 : MM → Option (Int × MM)) : Nat → Int → MM → Option (Int × MM)
  | 0, _, _ => none
  | n + 1, x1, σ =>
    if x1 < 6 then
      gd (0 ≤ x1 ∧ x1 < 6) <|
      mlet (zup σ 67 x1 0) fun σ3 =>
      mlet (zup σ3 68 x1 (-1)) fun σ5 =>
      mlet (zup σ5 69 x1 0) fun σ7 =>
      mlet (zup σ7 70 x1 0) fun σ9 =>
      mlet (zup σ9 71 x1 0) fun σ11 =>
      X6_runs_L2 k49 n (x1 + 1) σ11
    else
      k49 σ
def X6_runs_L86 (x1 : Int) (x2 : Int) (k158 : MM → Option (Int × MM)) : Nat → Int → MM → Option (Int × MM)
  | 0, _, _ => none
  | n + 1, x3, σ =>
    if x3 < σ 59 0 then
      gd (0 ≤ 20 + x3 ∧ 20 + x3 < 110) <|
      (X6_executes x1 (σ 59 (20 + x3)) x2 σ).bind fun σ33 =>
      gd (0 ≤ x2 ∧ x2 < 6) <|
      if σ33 68 x2 < 0 then
        gd (0 ≤ (40 * (σ33 59 20)) + x1 ∧ (40 * (σ33 59 20)) + x1 < 320) <|
        mlet (zup σ33 68 x2 (σ33 65 ((40 * (σ33 59 20)) + x1))) fun σ43 =>
        X6_runs_L86 x1 x2 k158 n (x3 + 1) σ43
      else
        mlet (zup σ33 68 x2 (σ33 68 x2)) fun σ38 =>
        X6_runs_L86 x1 x2 k158 n (x3 + 1) σ38
    else
      k158 σ
def X6_runs_L51 (k164 : MM → Option (Int × MM)) : Nat → Int → MM → Option (Int × MM)
  | 0, _, _ => none
  | n + 1, x1, σ =>
    if x1 < σ 59 2 then
      (X6_chosen x1 σ).bind fun r16 =>
      gd (0 ≤ x1 ∧ x1 < 40) <|
      mlet (zup σ 66 x1 r16) fun σ20 =>
      gd (0 ≤ r16 ∧ r16 < 6) <|
      gd (inR ((σ20 69 r16) + 1)) <|
      mlet (zup σ20 69 r16 ((σ20 69 r16) + 1)) fun σ25 =>
      X6_runs_L86 x1 r16 (fun σ45 => 
          X6_runs_L51 k164 n (x1 + 1) σ45) 100000 0 σ25
    else
      k164 σ
def X6_runs_L168 (k201 : Int → MM → Option (Int × MM)) : Nat → Int → Int → MM → Option (Int × MM)
  | 0, _, _, _ => none
  | n + 1, x1, x2, σ =>
    if x2 < 6 then
      gd (0 ≤ x2 ∧ x2 < 6) <|
      if x1 < σ 67 x2 then
        X6_runs_L168 k201 n (σ 67 x2) (x2 + 1) σ
      else
        X6_runs_L168 k201 n x1 (x2 + 1) σ
    else
      k201 x1 σ
def X6_runs (σ : MM) : Option (Int × MM) :=
  X6_runs_L2 (fun σ13 => 
      X6_runs_L51 (fun σ46 => 
          X6_runs_L168 (fun z52 σ53 => 
              some (z52, σ53)) 100000 0 0 σ46) 100000 0 σ13) 100000 0 σ
def X6_length (σ : MM) : Option (Int × MM) :=
  mlet (zup σ 58 3 0) fun σ1 =>
  (X6_runs σ1).bind fun (r3, σ5) =>
  some (r3, σ5)
def X6_isTurn (a1 : Int) (σ : MM) : Option Int :=
  gd (inR ((σ 59 2) - 1)) <|
  (X6_in a1 0 ((σ 59 2) - 1) σ).bind fun r3 =>
  some r3
def X6_start (a1 : Int) (a2 : Int) (σ : MM) : Option (Int × MM) :=
  mlet (zup σ 58 3 0) fun σ1 =>
  (X6_isStatement a1 σ1).bind fun r3 =>
  if r3 = 0 then
    (X6_fails 1 σ1).bind fun (r7, σ9) =>
    some (r7, σ9)
  else
    (X6_isTurn a2 σ1).bind fun r11 =>
    if r11 = 0 then
      (X6_fails 1 σ1).bind fun (r21, σ23) =>
      some (r21, σ23)
    else
      (X6_runs σ1).bind fun (r15, σ17) =>
      gd (0 ≤ (40 * a1) + a2 ∧ (40 * a1) + a2 < 320) <|
      some (σ17 65 ((40 * a1) + a2), σ17)
def X6_processor (a1 : Int) (σ : MM) : Option (Int × MM) :=
  mlet (zup σ 58 3 0) fun σ1 =>
  (X6_isTurn a1 σ1).bind fun r3 =>
  if r3 = 0 then
    (X6_fails 1 σ1).bind fun (r13, σ15) =>
    some (r13, σ15)
  else
    (X6_runs σ1).bind fun (r7, σ9) =>
    gd (0 ≤ a1 ∧ a1 < 40) <|
    some (σ9 66 a1, σ9)
def X6_total (a1 : Int) (a2 : Int) (σ : MM) : Option (Int × MM) :=
  mlet (zup σ 58 3 0) fun σ1 =>
  gd (inR ((σ1 59 4) - 1)) <|
  (X6_in a1 0 ((σ1 59 4) - 1) σ1).bind fun r5 =>
  if r5 = 0 then
    (X6_fails 1 σ1).bind fun (r29, σ31) =>
    some (r29, σ31)
  else
    (X6_runs σ1).bind fun (r9, σ11) =>
    if a2 = 0 then
      gd (0 ≤ a1 ∧ a1 < 6) <|
      some (σ11 69 a1, σ11)
    else
    if a2 = 1 then
      gd (0 ≤ a1 ∧ a1 < 6) <|
      some (σ11 70 a1, σ11)
    else
    if a2 = 2 then
      gd (0 ≤ a1 ∧ a1 < 6) <|
      some (σ11 71 a1, σ11)
    else
    if a2 = 3 then
      gd (0 ≤ a1 ∧ a1 < 6) <|
      some (σ11 67 a1, σ11)
    else
      (X6_fails 2 σ11).bind fun (r25, σ27) =>
      some (r25, σ27)
def X6_fill_L14 (k51 : Int → MM → Option (Int × MM)) : Nat → Int → Int → MM → Option (Int × MM)
  | 0, _, _, _ => none
  | n + 1, x1, x2, σ =>
    if x2 < σ 59 4 then
      gd (0 ≤ x2 ∧ x2 < 6) <|
      if x1 < σ 68 x2 then
        X6_fill_L14 k51 n (σ 68 x2) (x2 + 1) σ
      else
        X6_fill_L14 k51 n x1 (x2 + 1) σ
    else
      k51 x1 σ
def X6_fill (σ : MM) : Option (Int × MM) :=
  mlet (zup σ 58 3 0) fun σ1 =>
  (X6_runs σ1).bind fun (r3, σ5) =>
  X6_fill_L14 (fun z13 σ14 => 
      some (z13, σ14)) 100000 0 0 σ5
def X6_drain_L14 (x1 : Int) (k60 : Int → MM → Option (Int × MM)) : Nat → Int → Int → MM → Option (Int × MM)
  | 0, _, _, _ => none
  | n + 1, x2, x3, σ =>
    if x3 < σ 59 4 then
      gd (0 ≤ x3 ∧ x3 < 6) <|
      if 0 < σ 69 x3 then
        if σ 67 x3 < x2 then
          X6_drain_L14 x1 k60 n (σ 67 x3) (x3 + 1) σ
        else
          X6_drain_L14 x1 k60 n x2 (x3 + 1) σ
      else
        X6_drain_L14 x1 k60 n x2 (x3 + 1) σ
    else
      k60 x2 σ
def X6_drain (σ : MM) : Option (Int × MM) :=
  mlet (zup σ 58 3 0) fun σ1 =>
  (X6_runs σ1).bind fun (r3, σ5) =>
  X6_drain_L14 r3 (fun z15 σ16 => 
      gd (inR (r3 - z15)) <|
      some (r3 - z15, σ16)) 100000 r3 0 σ5
def X6_allCosts_L4 (σ : MM) (k28 : Int → Option Int) : Nat → Int → Int → Option Int
  | 0, _, _ => none
  | n + 1, x1, x2 =>
    if x2 < σ 59 0 then
      (X6_cost x2 σ).bind fun r3 =>
      gd (inR (x1 + r3)) <|
      X6_allCosts_L4 σ k28 n (x1 + r3) (x2 + 1)
    else
      k28 x1
def X6_allCosts (σ : MM) : Option Int :=
  X6_allCosts_L4 σ (fun z7 => 
      some z7) 100000 0 0
def X6_common_L4 (σ : MM) (k21 : Int → Option Int) : Nat → Int → Int → Option Int
  | 0, _, _ => none
  | n + 1, x2, x3 =>
    if x3 = 0 then
      k21 x2
    else
      gd (0 ≤ x2 ∧ 0 < x3) <|
      X6_common_L4 σ k21 n x3 (x2 % x3)
def X6_common (a1 : Int) (a2 : Int) (σ : MM) : Option Int :=
  X6_common_L4 σ (fun z4 => 
      some z4) 100000 a1 a2
def X6_speedUp (a1 : Int) (σ : MM) : Option (Int × MM) :=
  mlet (zup σ 58 3 0) fun σ1 =>
  (X6_in a1 0 1 σ1).bind fun r3 =>
  if r3 = 0 then
    (X6_fails 1 σ1).bind fun (r34, σ36) =>
    some (r34, σ36)
  else
    if σ1 59 0 = 0 then
      (X6_fails 2 σ1).bind fun (r30, σ32) =>
      some (r30, σ32)
    else
      (X6_allCosts σ1).bind fun r9 =>
      (X6_runs σ1).bind fun (r13, σ15) =>
      if a1 = 0 then
        gd (inR (r9 * (σ1 59 2))) <|
        (X6_common (r9 * (σ1 59 2)) r13 σ15).bind fun r25 =>
        gd (0 ≤ r9 * (σ1 59 2) ∧ 0 < r25) <|
        some ((r9 * (σ1 59 2)) / r25, σ15)
      else
        gd (inR (r9 * (σ1 59 2))) <|
        (X6_common (r9 * (σ1 59 2)) r13 σ15).bind fun r19 =>
        gd (0 ≤ r13 ∧ 0 < r19) <|
        some (r13 / r19, σ15)
def X6_bestProcessors_L19 (x1 : Int) (k62 : Int → MM → Option (Int × MM)) : Nat → Int → Int → Int → MM → Option (Int × MM)
  | 0, _, _, _, _ => none
  | n + 1, x2, x3, x4, σ =>
    if x4 < 7 then
      mlet (zup σ 59 4 x4) fun σ5 =>
      (X6_runs σ5).bind fun (r7, σ9) =>
      if x2 = 0 then
        X6_bestProcessors_L19 x1 k62 n x4 r7 (x4 + 1) σ9
      else
        if r7 < x3 then
          X6_bestProcessors_L19 x1 k62 n x4 r7 (x4 + 1) σ9
        else
          X6_bestProcessors_L19 x1 k62 n x2 x3 (x4 + 1) σ9
    else
      k62 x2 σ
def X6_bestProcessors (σ : MM) : Option (Int × MM) :=
  mlet (zup σ 58 3 0) fun σ1 =>
  X6_bestProcessors_L19 (σ1 59 4) (fun z13 σ14 => 
      mlet (zup σ14 59 4 (σ1 59 4)) fun σ15 =>
      some (z13, σ15)) 100000 0 0 1 σ1
def X6_signals_L9 (k66 : Int → MM → Option (Int × MM)) : Nat → Int → Int → MM → Option (Int × MM)
  | 0, _, _, _ => none
  | n + 1, x1, x2, σ =>
    if x2 < σ 59 1 then
      (X6_isSignal x2 σ).bind fun r5 =>
      if r5 = 0 then
        X6_signals_L9 k66 n (x1 + 0) (x2 + 1) σ
      else
        (X6_far x2 σ).bind fun r10 =>
        if r10 < σ 59 2 then
          (X6_far x2 σ).bind fun r15 =>
          gd (inR (x1 + ((σ 59 2) - r15))) <|
          X6_signals_L9 k66 n (x1 + ((σ 59 2) - r15)) (x2 + 1) σ
        else
          X6_signals_L9 k66 n (x1 + 0) (x2 + 1) σ
    else
      k66 x1 σ
def X6_signals (σ : MM) : Option (Int × MM) :=
  mlet (zup σ 58 3 0) fun σ1 =>
  X6_signals_L9 (fun z19 σ20 => 
      some (z19, σ20)) 100000 0 0 σ1
def X6_isViolated_L24 (x1 : Int) (x2 : Int) (σ : MM) (k89 : Option Int) : Nat → Int → Option Int
  | 0, _ => none
  | n + 1, x3 =>
    (X6_far x1 σ).bind fun r8 =>
    gd (inR (x3 + r8)) <|
    if x3 + r8 < σ 59 2 then
      (X6_target x1 σ).bind fun r14 =>
      (X6_far x1 σ).bind fun r17 =>
      gd (0 ≤ ((40 * r14) + x3) + r17 ∧ ((40 * r14) + x3) + r17 < 320) <|
      (X6_source x1 σ).bind fun r22 =>
      gd (0 ≤ (40 * r22) + x3 ∧ (40 * r22) + x3 < 320) <|
      gd (inR ((σ 65 ((40 * r22) + x3)) + x2)) <|
      if σ 65 (((40 * r14) + x3) + r17) < (σ 65 ((40 * r22) + x3)) + x2 then
        some 1
      else
        gd (inR (x3 + 1)) <|
        X6_isViolated_L24 x1 x2 σ k89 n (x3 + 1)
    else
      k89
def X6_isViolated (a1 : Int) (σ : MM) : Option Int :=
  (X6_far a1 σ).bind fun r1 =>
  if r1 = 0 then
    (X6_bare a1 σ).bind fun r30 =>
    X6_isViolated_L24 a1 r30 σ (
        some 0) 100000 0
  else
    (X6_lag a1 σ).bind fun r5 =>
    X6_isViolated_L24 a1 r5 σ (
        some 0) 100000 0
def X6_violated_L12 (k38 : MM → Option (Int × MM)) : Nat → Int → MM → Option (Int × MM)
  | 0, _, _ => none
  | n + 1, x1, σ =>
    if x1 < σ 59 1 then
      (X6_isViolated x1 σ).bind fun r9 =>
      if r9 = 0 then
        X6_violated_L12 k38 n (x1 + 1) σ
      else
        some (x1, σ)
    else
      k38 σ
def X6_violated (σ : MM) : Option (Int × MM) :=
  mlet (zup σ 58 3 0) fun σ1 =>
  (X6_runs σ1).bind fun (r3, σ5) =>
  X6_violated_L12 (fun σ13 => 
      some ((-1), σ13)) 100000 0 σ5
def X6_save_L12 (k36 : MM → Option (Int × MM)) : Nat → Int → MM → Option (Int × MM)
  | 0, _, _ => none
  | n + 1, x1, σ =>
    if x1 < 110 then
      gd (0 ≤ x1 ∧ x1 < 110) <|
      mlet (zup σ 60 x1 (σ 59 x1)) fun σ8 =>
      X6_save_L12 k36 n (x1 + 1) σ8
    else
      k36 σ
def X6_save (σ : MM) : Option (Int × MM) :=
  mlet (zup σ 58 3 0) fun σ1 =>
  mlet (zup σ1 58 2 1) fun σ3 =>
  X6_save_L12 (fun σ10 => 
      some (σ10 59 1, σ10)) 100000 0 σ3
def X6_restore_L20 (k44 : MM → Option (Int × MM)) : Nat → Int → MM → Option (Int × MM)
  | 0, _, _ => none
  | n + 1, x1, σ =>
    if x1 < 110 then
      gd (0 ≤ x1 ∧ x1 < 110) <|
      mlet (zup σ 59 x1 (σ 60 x1)) fun σ8 =>
      X6_restore_L20 k44 n (x1 + 1) σ8
    else
      k44 σ
def X6_restore (σ : MM) : Option (Int × MM) :=
  mlet (zup σ 58 3 0) fun σ1 =>
  if σ1 58 2 = 0 then
    (X6_fails 1 σ1).bind fun (r12, σ14) =>
    some (r12, σ14)
  else
    X6_restore_L20 (fun σ10 => 
        some (σ10 59 1, σ10)) 100000 0 σ1
def X6_signalsKept_L4 (σ : MM) (k36 : Int → Option Int) : Nat → Int → Int → Option Int
  | 0, _, _ => none
  | n + 1, x1, x2 =>
    if x2 < σ 59 1 then
      (X6_isSignal x2 σ).bind fun r3 =>
      if r3 = 0 then
        X6_signalsKept_L4 σ k36 n (x1 + 0) (x2 + 1)
      else
        gd (inR (x1 + 1)) <|
        X6_signalsKept_L4 σ k36 n (x1 + 1) (x2 + 1)
    else
      k36 x1
def X6_signalsKept (σ : MM) : Option Int :=
  X6_signalsKept_L4 σ (fun z8 => 
      some z8) 100000 0 0
def X6_count (a1 : Int) (σ : MM) : Option (Int × MM) :=
  mlet (zup σ 58 3 0) fun σ1 =>
  if a1 = 0 then
    some (σ1 59 0, σ1)
  else
  if a1 = 1 then
    some (σ1 59 1, σ1)
  else
  if a1 = 2 then
    (X6_signalsKept σ1).bind fun r8 =>
    some (r8, σ1)
  else
  if a1 = 3 then
    some (σ1 58 5, σ1)
  else
  if a1 = 4 then
    (X6_allCosts σ1).bind fun r14 =>
    some (r14, σ1)
  else
  if a1 = 5 then
    (X6_fails 1 σ1).bind fun (r18, σ20) =>
    some (r18, σ20)
  else
  if a1 = 6 then
    (X6_fails 1 σ1).bind fun (r23, σ25) =>
    some (r23, σ25)
  else
  if a1 = 7 then
    (X6_fails 1 σ1).bind fun (r28, σ30) =>
    some (r28, σ30)
  else
  if a1 = 8 then
    (X6_fails 1 σ1).bind fun (r33, σ35) =>
    some (r33, σ35)
  else
  if a1 = 9 then
    (X6_fails 1 σ1).bind fun (r38, σ40) =>
    some (r38, σ40)
  else
  if a1 = 10 then
    some (σ1 59 ((2 + a1) - 10), σ1)
  else
  if a1 = 11 then
    some (σ1 59 ((2 + a1) - 10), σ1)
  else
  if a1 = 12 then
    some (σ1 59 ((2 + a1) - 10), σ1)
  else
  if a1 = 13 then
    some (σ1 59 ((2 + a1) - 10), σ1)
  else
    (X6_fails 1 σ1).bind fun (r50, σ52) =>
    some (r50, σ52)
