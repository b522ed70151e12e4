-- the methods as functions of the world (printed by wip/whole/build.py)
def factIx (x : Int32) : Int32 :=
  if (x.toUInt32 % 65536).toInt32 = 104 then 0 else
  if (x.toUInt32 % 65536).toInt32 = 115 then 1 else
  if (x.toUInt32 % 65536).toInt32 = 112 then 2 else
  if (x.toUInt32 % 65536).toInt32 = 116 then 3 else
  if (x.toUInt32 % 65536).toInt32 = 100 then 4 else
  if (x.toUInt32 % 65536).toInt32 = 107 then 5 else
  if (x.toUInt32 % 65536).toInt32 = 111 then 6 else
  if (x.toUInt32 % 65536).toInt32 = 119 then 7 else
  if (x.toUInt32 % 65536).toInt32 = 102 then 8 else
  if (x.toUInt32 % 65536).toInt32 = 99 then 9 else
  if (x.toUInt32 % 65536).toInt32 = 109 then 10 else
  if (x.toUInt32 % 65536).toInt32 = 117 then 11 else
  -1
def fX4_draftStep (v1 : Int32) (w : Wd) : Option Wd :=
  if (w.1 106 8) < (100 : Int32) then (
    if inb (w.1 106 8) 100 = true then (
    nw (wi w 111 (w.1 106 8) v1) fun w_3 => (
    nw (si w_3 106 8 ((w_3.1 106 8) + (1 : Int32))) fun w_4 => (
    some w_4))) else none)
  else (
    some w)

def fX4_peek (w : Wd) : Option Int32 :=
  if (w.1 106 10) < (w.1 106 9) then (
    if inb (w.1 106 10) 100 = true then (
    some (ri w 113 (w.1 106 10))) else none)
  else (
    some (1000 : Int32))

def fX4_readAnds_5 (c_readTest : Int32 →  Wd → Option Wd) : Nat → Int32 → Wd → Option Wd
  | 0, _, _ => none
  | n + 1, v1, w =>
  if (w.1 106 11) < 0 then (
    if (w.1 106 10) < (w.1 106 9) then (
      (fX4_peek w).bind fun v_3 => (
      if v_3 = (38 : Int32) then (
        nw (si w 106 10 ((w.1 106 10) + (1 : Int32))) fun w_5 => (
        (c_readTest v1 w_5).bind fun v_6 => (
        (fX4_draftStep (20038 : Int32) v_6).bind fun v_7 => (
        (fX4_readAnds_5 c_readTest n) v1 v_7))))
      else (
        some w)))
    else (
      some w))
  else (
    some w)
def fX4_readAnds (c_readTest : Int32 →  Wd → Option Wd) (v1 : Int32) (w : Wd) : Option Wd :=
  (c_readTest v1 w).bind fun v_1 => (
  fX4_readAnds_5 c_readTest FU v1 v_1)

def fX4_readOrs_5 (c_readTest : Int32 →  Wd → Option Wd) : Nat → Int32 → Wd → Option Wd
  | 0, _, _ => none
  | n + 1, v1, w =>
  if (w.1 106 11) < 0 then (
    if (w.1 106 10) < (w.1 106 9) then (
      (fX4_peek w).bind fun v_3 => (
      if v_3 = (124 : Int32) then (
        nw (si w 106 10 ((w.1 106 10) + (1 : Int32))) fun w_5 => (
        (fX4_readAnds c_readTest v1 w_5).bind fun v_6 => (
        (fX4_draftStep (20124 : Int32) v_6).bind fun v_7 => (
        (fX4_readOrs_5 c_readTest n) v1 v_7))))
      else (
        some w)))
    else (
      some w))
  else (
    some w)
def fX4_readOrs (c_readTest : Int32 →  Wd → Option Wd) (v1 : Int32) (w : Wd) : Option Wd :=
  (fX4_readAnds c_readTest v1 w).bind fun v_1 => (
  fX4_readOrs_5 c_readTest FU v1 v_1)

def fX4_fail (w : Wd) : Option Wd :=
  if (w.1 106 11) < 0 then (
    nw (si w 106 11 (w.1 106 10)) fun w_2 => (
    some w_2))
  else (
    some w)

def fX11_within (v0 : Int32) (v1 : Int32) (v2 : Int32) (w : Wd) : Option Bool :=
  if v0 < v1 then (
    some false)
  else (
    if v2 < v0 then (
      some false)
    else (
      some true))

def fX4_readUnit_68 (v2 : Int32) (w : Wd) : Option Wd :=
  (fX4_draftStep v2 w).bind fun v_1 => (
  some v_1)
def fX4_readUnit_20 : Nat → Int32 → Int32 → Wd → Option Wd
  | 0, _, _, _ => none
  | n + 1, v2, v3, w =>
  if v3 < (4 : Int32) then (
    (fX4_peek w).bind fun v_2 => (
    (fX11_within v_2 (48 : Int32) (57 : Int32) w).bind fun v_3 => (
    if v_3 = true then (
      (fX4_peek w).bind fun v_5 => (
      nw (si w 106 10 ((w.1 106 10) + (1 : Int32))) fun w_6 => (
      (fX4_readUnit_20 n) ((((10 : Int32) * v2) + v_5) - (48 : Int32)) (v3 + (1 : Int32)) w_6)))
    else (
      fX4_readUnit_68 v2 w))))
  else (
    fX4_readUnit_68 v2 w)
def fX4_readUnit_119 (w : Wd) : Option Wd :=
  (fX4_fail w).bind fun v_1 => (
  some v_1)
def fX4_readUnit (w : Wd) : Option Wd :=
  (fX4_peek w).bind fun v_1 => (
  (fX11_within v_1 (48 : Int32) (57 : Int32) w).bind fun v_2 => (
  if v_2 = true then (
    fX4_readUnit_20 FU (0 : Int32) (0 : Int32) w)
  else (
    (fX11_within v_1 (97 : Int32) (122 : Int32) w).bind fun v_4 => (
    if v_4 = true then (
      if (factIx v_1) < 0 then (
        fX4_readUnit_119 w)
      else (
        nw (si w 106 10 ((w.1 106 10) + (1 : Int32))) fun w_7 => (
        (fX4_draftStep ((10000 : Int32) + v_1) w_7).bind fun v_8 => (
        some v_8))))
    else (
      fX4_readUnit_119 w)))))

def fX4_readSum_45 (k9 : Int32 → Wd → Option Wd) (v1 : Int32) (w : Wd) : Option Wd :=
  nw (si w 106 10 ((w.1 106 10) + (1 : Int32))) fun w_1 => (
  (fX4_readUnit w_1).bind fun v_2 => (
  (fX4_draftStep ((20000 : Int32) + v1) v_2).bind fun v_3 => (
  (fX4_peek v_3).bind fun v_4 => (
  k9 v_4 v_3))))
def fX4_readSum_9 : Nat → Int32 → Wd → Option Wd
  | 0, _, _ => none
  | n + 1, v1, w =>
  if (w.1 106 11) < 0 then (
    if (w.1 106 10) < (w.1 106 9) then (
      if v1 = (43 : Int32) then (
        fX4_readSum_45 (fX4_readSum_9 n) v1 w)
      else (
        if v1 = (45 : Int32) then (
          fX4_readSum_45 (fX4_readSum_9 n) v1 w)
        else (
          if v1 = (42 : Int32) then (
            fX4_readSum_45 (fX4_readSum_9 n) v1 w)
          else (
            some w))))
    else (
      some w))
  else (
    some w)
def fX4_readSum (w : Wd) : Option Wd :=
  (fX4_readUnit w).bind fun v_1 => (
  (fX4_peek v_1).bind fun v_2 => (
  fX4_readSum_9 FU v_2 v_1))

def fX4_readTest_77 (c_readOrs : Int32 →  Wd → Option Wd) (c_readTest : Int32 →  Wd → Option Wd) (v1 : Int32) (v2 : Int32) (w : Wd) : Option Wd :=
  if v1 < (5 : Int32) then (
    if v2 = (33 : Int32) then (
      nw (si w 106 10 ((w.1 106 10) + (1 : Int32))) fun w_3 => (
      (c_readTest (v1 + (1 : Int32)) w_3).bind fun v_4 => (
      (fX4_draftStep (20033 : Int32) v_4).bind fun v_5 => (
      some v_5))))
    else (
      nw (si w 106 10 ((w.1 106 10) + (1 : Int32))) fun w_6 => (
      (c_readOrs (v1 + (1 : Int32)) w_6).bind fun v_7 => (
      (fX4_peek v_7).bind fun v_8 => (
      if v_8 = (41 : Int32) then (
        nw (si v_7 106 10 ((v_7.1 106 10) + (1 : Int32))) fun w_10 => (
        some w_10))
      else (
        (fX4_fail v_7).bind fun v_11 => (
        some v_11)))))))
  else (
    (fX4_fail w).bind fun v_12 => (
    some v_12))
def fX4_readTest_44 (c_readOrs : Int32 →  Wd → Option Wd) (c_readTest : Int32 →  Wd → Option Wd) (v3 : Int32) (w : Wd) : Option Wd :=
  nw (si w 106 10 ((w.1 106 10) + (1 : Int32))) fun w_1 => (
  (fX4_readSum w_1).bind fun v_2 => (
  (fX4_draftStep ((20000 : Int32) + v3) v_2).bind fun v_3 => (
  some v_3)))
def fX4_readTest (c_readOrs : Int32 →  Wd → Option Wd) (c_readTest : Int32 →  Wd → Option Wd) (v1 : Int32) (w : Wd) : Option Wd :=
  (fX4_peek w).bind fun v_1 => (
  if v_1 = (33 : Int32) then (
    fX4_readTest_77 c_readOrs c_readTest v1 v_1 w)
  else (
    if v_1 = (40 : Int32) then (
      fX4_readTest_77 c_readOrs c_readTest v1 v_1 w)
    else (
      (fX4_readSum w).bind fun v_4 => (
      (fX4_peek v_4).bind fun v_5 => (
      if v_5 = (60 : Int32) then (
        fX4_readTest_44 c_readOrs c_readTest v_5 v_4)
      else (
        if v_5 = (61 : Int32) then (
          fX4_readTest_44 c_readOrs c_readTest v_5 v_4)
        else (
          if v_5 = (62 : Int32) then (
            fX4_readTest_44 c_readOrs c_readTest v_5 v_4)
          else (
            (fX4_fail v_4).bind fun v_9 => (
            some v_9)))))))))

def kRT : Nat → Int32 → Wd → Option Wd
  | 0 => fun _ _ => none
  | n + 1 => fX4_readTest (fX4_readOrs (kRT n)) (kRT n)
def kRO (v : Int32) (w : Wd) : Option Wd := fX4_readOrs (kRT 6) v w

def fX12_here (w : Wd) : Option Int32 :=
  if (w.1 148 24) < (w.1 148 23) then (
    if inb (w.1 148 24) 100 = true then (
    some (ri w 163 (w.1 148 24))) else none)
  else (
    some (-1 : Int32))

def fX12_sign (v1 : Int32) (w : Wd) : Option (Bool × Wd) :=
  if (w.1 148 26) = 0 then (
    (fX12_here w).bind fun v_2 => (
    if v_2 = v1 then (
      nw (si w 148 24 ((w.1 148 24) + (1 : Int32))) fun w_4 => (
      some (true, w_4)))
    else (
      some (false, w))))
  else (
    some (false, w))

def fX12_ands_5 (c_test :  Wd → Option (Bool × Wd)) : Nat → Int32 → Wd → Option (Bool × Wd)
  | 0, _, _ => none
  | n + 1, v1, w =>
  (fX12_sign (38 : Int32) w).bind fun v_1 => (
  if v_1.1 = true then (
    (c_test v_1.2).bind fun v_3 => (
    if v1 = 0 then (
      (fX12_ands_5 c_test n) (0 : Int32) v_3.2)
    else (
      if v_3.1 = true then (
        (fX12_ands_5 c_test n) (1 : Int32) v_3.2)
      else (
        (fX12_ands_5 c_test n) (0 : Int32) v_3.2))))
  else (
    if v1 = 0 then some (false, v_1.2) else if v1 = 1 then some (true, v_1.2) else none))
def fX12_ands (c_test :  Wd → Option (Bool × Wd)) (w : Wd) : Option (Bool × Wd) :=
  (c_test w).bind fun v_1 => (
  fX12_ands_5 c_test FU (bI v_1.1) v_1.2)

def fX12_ors_5 (c_test :  Wd → Option (Bool × Wd)) : Nat → Int32 → Wd → Option (Bool × Wd)
  | 0, _, _ => none
  | n + 1, v1, w =>
  (fX12_sign (124 : Int32) w).bind fun v_1 => (
  if v_1.1 = true then (
    (fX12_ands c_test v_1.2).bind fun v_3 => (
    if v1 = 0 then (
      if v_3.1 = true then (
        (fX12_ors_5 c_test n) (1 : Int32) v_3.2)
      else (
        (fX12_ors_5 c_test n) (0 : Int32) v_3.2))
    else (
      (fX12_ors_5 c_test n) (1 : Int32) v_3.2)))
  else (
    if v1 = 0 then some (false, v_1.2) else if v1 = 1 then some (true, v_1.2) else none))
def fX12_ors (c_test :  Wd → Option (Bool × Wd)) (w : Wd) : Option (Bool × Wd) :=
  (fX12_ands c_test w).bind fun v_1 => (
  fX12_ors_5 c_test FU (bI v_1.1) v_1.2)

def fX12_opens_13 (w : Wd) : Option Wd :=
  if (w.1 148 26) = 0 then (
    nw (si w 148 25 ((w.1 148 25) + (1 : Int32))) fun w_2 => (
    nw (si w_2 148 24 ((w_2.1 148 24) + (1 : Int32))) fun w_3 => (
    some w_3)))
  else (
    some w)
def fX12_opens (w : Wd) : Option Wd :=
  if (w.1 148 25) = (5 : Int32) then (
    nw (si w 148 26 (1 : Int32)) fun w_2 => (
    fX12_opens_13 w_2))
  else (
    fX12_opens_13 w)

def fX12_beside (v0 : Int32) (v1 : Int32) (w : Wd) : Option Int32 :=
  if v1 = (0 : Int32) then (
    if v0 < (10 : Int32) then (
      some (-1 : Int32))
    else (
      some (v0 - (10 : Int32))))
  else if v1 = (1 : Int32) then (
    if 0 < (jrm v0 (10 : Int32)) then (
      some (v0 - (1 : Int32)))
    else (
      some (-1 : Int32)))
  else if v1 = (2 : Int32) then (
    if (jrm v0 (10 : Int32)) < (9 : Int32) then (
      some (v0 + (1 : Int32)))
    else (
      some (-1 : Int32)))
  else (
  if v0 < (90 : Int32) then (
    some (v0 + (10 : Int32)))
  else (
    some (-1 : Int32)))

def fX12_c (v1 : Int32) (v2 : Int32) (w : Wd) : Option Int32 :=
  if inb (((15 : Int32) * v1) + v2) 4340 = true then (
  some (ri w 149 (((15 : Int32) * v1) + v2))) else none

def fX12_g (v1 : Int32) (w : Wd) : Option Int32 :=
  if inb ((4300 : Int32) + v1) 4340 = true then (
  some (ri w 149 ((4300 : Int32) + v1))) else none

def fX12_day (w : Wd) : Option Int32 :=
  (fX12_g (0 : Int32) w).bind fun v_1 => (
  some (v_1 / (24 : Int32)))

def fX12_depthAt (v1 : Int32) (w : Wd) : Option Int32 :=
  if inb (v1 + (0 : Int32)) 4340 = true then (
  (fX12_c (ri w 149 (v1 + (0 : Int32))) (0 : Int32) w).bind fun v_2 => (
  if inb (v1 + (1 : Int32)) 4340 = true then (
  some (v_2 - (ri w 149 (v1 + (1 : Int32))))) else none)) else none

def fX12_l (v1 : Int32) (v2 : Int32) (w : Wd) : Option Int32 :=
  if inb (((3300 : Int32) + ((125 : Int32) * v1)) + v2) 4340 = true then (
  some (ri w 149 (((3300 : Int32) + ((125 : Int32) * v1)) + v2))) else none

def fX12_spot (v1 : Int32) (v2 : Int32) (w : Wd) : Option Int32 :=
  some ((((3300 : Int32) + ((125 : Int32) * v1)) + (4 : Int32)) + ((6 : Int32) * v2))

def fX12_placeOn_2 (w : Wd) : Nat → Int32 → Int32 → Int32 → Option Int32
  | 0, _, _, _ => none
  | n + 1, v1, v2, v3 =>
  (fX12_l v1 (0 : Int32) w).bind fun v_1 => (
  if v3 < v_1 then (
    (fX12_spot v1 v3 w).bind fun v_3 => (
    if inb (v_3 + (0 : Int32)) 4340 = true then (
    if (ri w 149 (v_3 + (0 : Int32))) = v2 then (
      some v3)
    else (
      (fX12_placeOn_2 w n) v1 v2 (v3 + (1 : Int32)))) else none))
  else (
    some (-1 : Int32)))
def fX12_placeOn (v1 : Int32) (v2 : Int32) (w : Wd) : Option Int32 :=
  fX12_placeOn_2 w FU v1 v2 (0 : Int32)

def fX12_greatest_65 (k6 : Int32 → Int32 → Int32 → Option Int32) (v3 : Int32) (s0 : Int32) (w : Wd) : Option Int32 :=
  k6 (1 : Int32) s0 (v3 + (1 : Int32))
def fX12_greatest_6 (w : Wd) : Nat → Int32 → Int32 → Int32 → Option Int32
  | 0, _, _, _ => none
  | n + 1, v1, v2, v3 =>
  (fX12_g (15 : Int32) w).bind fun v_1 => (
  if v3 < v_1 then (
    (fX12_placeOn v3 (w.1 148 27) w).bind fun v_3 => (
    if v_3 = (-1 : Int32) then (
      (fX12_greatest_6 w n) v1 v2 (v3 + (1 : Int32)))
    else (
      (fX12_spot v3 v_3 w).bind fun v_5 => (
      (fX12_depthAt v_5 w).bind fun v_6 => (
      if v1 = 0 then (
        fX12_greatest_65 (fX12_greatest_6 w n) v3 v_6 w)
      else (
        if v2 < v_6 then (
          fX12_greatest_65 (fX12_greatest_6 w n) v3 v_6 w)
        else (
          fX12_greatest_65 (fX12_greatest_6 w n) v3 v2 w)))))))
  else (
    some v2))
def fX12_greatest (w : Wd) : Option Int32 :=
  fX12_greatest_6 w FU (0 : Int32) (0 : Int32) (0 : Int32)

def fX12_inWork_9 (w : Wd) : Nat → Int32 → Int32 → Option Int32
  | 0, _, _ => none
  | n + 1, v1, v2 =>
  if v2 < 0 then (
    some (-1 : Int32))
  else (
    (fX12_spot v1 v2 w).bind fun v_2 => (
    if inb (v_2 + (3 : Int32)) 4340 = true then (
    if (ri w 149 (v_2 + (3 : Int32))) = (-9 : Int32) then (
      some v2)
    else (
      (fX12_inWork_9 w n) v1 (v2 + (-1 : Int32)))) else none))
def fX12_inWork (v1 : Int32) (w : Wd) : Option Int32 :=
  (fX12_l v1 (0 : Int32) w).bind fun v_1 => (
  fX12_inWork_9 w FU v1 (v_1 - (1 : Int32)))

def fX12_isShut_30 (k2 : Int32 → Int32 → Option Bool) (v1 : Int32) (v2 : Int32) (s0 : Int32) (w : Wd) : Option Bool :=
  if s0 = (-1 : Int32) then (
    k2 v1 (v2 + (1 : Int32)))
  else (
    (fX12_spot v2 s0 w).bind fun v_2 => (
    if inb (v_2 + (0 : Int32)) 4340 = true then (
    if (ri w 149 (v_2 + (0 : Int32))) = v1 then (
      some true)
    else (
      k2 v1 (v2 + (1 : Int32)))) else none))
def fX12_isShut_2 (w : Wd) : Nat → Int32 → Int32 → Option Bool
  | 0, _, _ => none
  | n + 1, v1, v2 =>
  (fX12_g (15 : Int32) w).bind fun v_1 => (
  if v2 < v_1 then (
    (fX12_l v2 (3 : Int32) w).bind fun v_3 => (
    if 0 < v_3 then (
      (fX12_inWork v2 w).bind fun v_5 => (
      fX12_isShut_30 (fX12_isShut_2 w n) v1 v2 v_5 w))
    else (
      fX12_isShut_30 (fX12_isShut_2 w n) v1 v2 (-1 : Int32) w)))
  else (
    some false))
def fX12_isShut (v1 : Int32) (w : Wd) : Option Bool :=
  fX12_isShut_2 w FU v1 (0 : Int32)

def fX12_levelAt (v1 : Int32) (w : Wd) : Option Int32 :=
  if (w.1 148 4) = 0 then (
    some (0 : Int32))
  else (
    if (w.1 148 4) = 0 then none else (
    if inb (jrm v1 (w.1 148 4)) 60 = true then (
    some (ri w 150 (jrm v1 (w.1 148 4)))) else none))

def fX12_fact_204 (w : Wd) : Nat → Int32 → Int32 → Option Int32
  | 0, _, _ => none
  | n + 1, v2, v3 =>
  (fX12_g (16 : Int32) w).bind fun v_1 => (
  if v3 < v_1 then (
    if inb ((2500 : Int32) + ((4 : Int32) * v3)) 4340 = true then (
    if (ri w 149 ((2500 : Int32) + ((4 : Int32) * v3))) = (w.1 148 27) then (
      (fX12_fact_204 w n) (v2 + (1 : Int32)) (v3 + (1 : Int32)))
    else (
      (fX12_fact_204 w n) (v2 + (0 : Int32)) (v3 + (1 : Int32)))) else none)
  else (
    some v2))
def fX12_fact_288 (k251 : Int32 → Int32 → Option Int32) (v3 : Int32) (s0 : Int32) (w : Wd) : Option Int32 :=
  k251 (s0 + (0 : Int32)) (v3 + (1 : Int32))
def fX12_fact_251 (w : Wd) : Nat → Int32 → Int32 → Option Int32
  | 0, _, _ => none
  | n + 1, v2, v3 =>
  if v3 < (4 : Int32) then (
    (fX12_beside (w.1 148 27) v3 w).bind fun v_2 => (
    if v_2 = (-1 : Int32) then (
      fX12_fact_288 (fX12_fact_251 w n) v3 v2 w)
    else (
      (fX12_beside (w.1 148 27) v3 w).bind fun v_4 => (
      (fX12_isShut v_4 w).bind fun v_5 => (
      if v_5 = true then (
        (fX12_fact_251 w n) (v2 + (1 : Int32)) (v3 + (1 : Int32)))
      else (
        fX12_fact_288 (fX12_fact_251 w n) v3 v2 w))))))
  else (
    some v2)
def fX12_fact (v1 : Int32) (w : Wd) : Option Int32 :=
  if v1 = (99 : Int32) then (
    (fX12_c (w.1 148 27) (11 : Int32) w).bind fun v_1 => (
    (fX12_c (w.1 148 27) (12 : Int32) w).bind fun v_2 => (
    some (v_1 + v_2))))
  else if v1 = (100 : Int32) then (
    (fX12_greatest w).bind fun v_4 => (
    some v_4))
  else if v1 = (102 : Int32) then (
    (fX12_c (w.1 148 27) (9 : Int32) w).bind fun v_6 => (
    some v_6))
  else if v1 = (104 : Int32) then (
    (fX12_c (w.1 148 27) (0 : Int32) w).bind fun v_8 => (
    some v_8))
  else if v1 = (107 : Int32) then (
    (fX12_day w).bind fun v_10 => (
    some v_10))
  else if v1 = (109 : Int32) then (
    fX12_fact_204 w FU (0 : Int32) (0 : Int32))
  else if v1 = (111 : Int32) then (
    (fX12_g (0 : Int32) w).bind fun v_13 => (
    some (jrm v_13 (24 : Int32))))
  else if v1 = (112 : Int32) then (
    (fX12_c (w.1 148 27) (2 : Int32) w).bind fun v_15 => (
    some v_15))
  else if v1 = (115 : Int32) then (
    (fX12_c (w.1 148 27) (1 : Int32) w).bind fun v_17 => (
    some v_17))
  else if v1 = (116 : Int32) then (
    (fX12_c (w.1 148 27) (3 : Int32) w).bind fun v_19 => (
    some v_19))
  else if v1 = (119 : Int32) then (
    (fX12_g (0 : Int32) w).bind fun v_21 => (
    (fX12_levelAt v_21 w).bind fun v_22 => (
    some v_22)))
  else (
  fX12_fact_251 w FU (0 : Int32) (0 : Int32))

def fX12_in (v0 : Int64) (v2 : Int64) (v4 : Int64) (w : Wd) : Option Bool :=
  if v0 < v2 then (
    some false)
  else (
    if v4 < v0 then (
      some false)
    else (
      some true))

def fX12_isLetter (v0 : Int32) (w : Wd) : Option Bool :=
  if v0 = (104 : Int32) then (
    some true)
  else (
    if v0 = (115 : Int32) then (
      some true)
    else (
      if v0 = (112 : Int32) then (
        some true)
      else (
        if v0 = (116 : Int32) then (
          some true)
        else (
          if v0 = (100 : Int32) then (
            some true)
          else (
            if v0 = (107 : Int32) then (
              some true)
            else (
              if v0 = (111 : Int32) then (
                some true)
              else (
                if v0 = (119 : Int32) then (
                  some true)
                else (
                  if v0 = (102 : Int32) then (
                    some true)
                  else (
                    if v0 = (99 : Int32) then (
                      some true)
                    else (
                      if v0 = (109 : Int32) then (
                        some true)
                      else (
                        if v0 = (117 : Int32) then (
                          some true)
                        else (
                          some false))))))))))))

def fX12_unit_59 : Nat → Int32 → Int32 → Wd → Option (Int32 × Wd)
  | 0, _, _, _ => none
  | n + 1, v1, v2, w =>
  if v2 < (4 : Int32) then (
    (fX12_here w).bind fun v_2 => (
    (fX12_in v_2.toInt64 (48 : Int64) (57 : Int64) w).bind fun v_3 => (
    if v_3 = true then (
      (fX12_here w).bind fun v_5 => (
      nw (si w 148 24 ((w.1 148 24) + (1 : Int32))) fun w_6 => (
      (fX12_unit_59 n) ((((10 : Int32) * v1) + v_5) - (48 : Int32)) (v2 + (1 : Int32)) w_6)))
    else (
      some (v1, w)))))
  else (
    some (v1, w))
def fX12_unit (w : Wd) : Option (Int32 × Wd) :=
  (fX12_here w).bind fun v_1 => (
  (fX12_isLetter v_1 w).bind fun v_2 => (
  if v_2 = true then (
    (fX12_here w).bind fun v_4 => (
    nw (si w 148 24 ((w.1 148 24) + (1 : Int32))) fun w_5 => (
    (fX12_fact v_4 w_5).bind fun v_6 => (
    some (v_6, w_5)))))
  else (
    (fX12_here w).bind fun v_7 => (
    (fX12_in v_7.toInt64 (48 : Int64) (57 : Int64) w).bind fun v_8 => (
    if v_8 = true then (
      fX12_unit_59 FU (0 : Int32) (0 : Int32) w)
    else (
      nw (si w 148 26 (1 : Int32)) fun w_10 => (
      some ((0 : Int32), w_10))))))))

def fX12_sum_103 (k16 : Int32 → Wd → Option (Int32 × Wd)) (s0 : Int64) (w : Wd) : Option (Int32 × Wd) :=
  if s0 < (-1000000 : Int64) then (
    k16 (-1000000 : Int32) w)
  else (
    if (1000000 : Int64) < s0 then (
      k16 (1000000 : Int32) w)
    else (
      k16 s0.toInt32 w))
def fX12_sum_50 (k16 : Int32 → Wd → Option (Int32 × Wd)) (v1 : Int32) (w : Wd) : Option (Int32 × Wd) :=
  (fX12_here w).bind fun v_1 => (
  nw (si w 148 24 ((w.1 148 24) + (1 : Int32))) fun w_2 => (
  (fX12_unit w_2).bind fun v_3 => (
  if v_1 = (43 : Int32) then (
    fX12_sum_103 k16 (v1.toInt64 + v_3.1.toInt64) v_3.2)
  else (
    if v_1 = (45 : Int32) then (
      fX12_sum_103 k16 (v1.toInt64 - v_3.1.toInt64) v_3.2)
    else (
      fX12_sum_103 k16 (v1.toInt64 * v_3.1.toInt64) v_3.2)))))
def fX12_sum_16 : Nat → Int32 → Wd → Option (Int32 × Wd)
  | 0, _, _ => none
  | n + 1, v1, w =>
  if (w.1 148 26) = 0 then (
    (fX12_here w).bind fun v_2 => (
    if v_2 = (43 : Int32) then (
      fX12_sum_50 (fX12_sum_16 n) v1 w)
    else (
      (fX12_here w).bind fun v_4 => (
      if v_4 = (45 : Int32) then (
        fX12_sum_50 (fX12_sum_16 n) v1 w)
      else (
        (fX12_here w).bind fun v_6 => (
        if v_6 = (42 : Int32) then (
          fX12_sum_50 (fX12_sum_16 n) v1 w)
        else (
          some (v1, w))))))))
  else (
    some (v1, w))
def fX12_sum (w : Wd) : Option (Int32 × Wd) :=
  if (w.1 148 26) = 0 then (
    (fX12_unit w).bind fun v_2 => (
    fX12_sum_16 FU v_2.1 v_2.2))
  else (
    fX12_sum_16 FU (0 : Int32) w)

def fX12_test_32 (c_ors :  Wd → Option (Bool × Wd)) (c_test :  Wd → Option (Bool × Wd)) (s0 : Int32) (w : Wd) : Option (Bool × Wd) :=
  nw (si w 148 25 ((w.1 148 25) - (1 : Int32))) fun w_1 => (
  if s0 = 0 then (
    some (true, w_1))
  else (
    some (false, w_1)))
def fX12_test_31 (c_ors :  Wd → Option (Bool × Wd)) (c_test :  Wd → Option (Bool × Wd)) (w : Wd) : Option (Bool × Wd) :=
  fX12_test_32 c_ors c_test (0 : Int32) w
def fX12_test_100 (c_ors :  Wd → Option (Bool × Wd)) (c_test :  Wd → Option (Bool × Wd)) (v1 : Int32) (w : Wd) : Option (Bool × Wd) :=
  nw (si w 148 25 ((w.1 148 25) - (1 : Int32))) fun w_1 => (
  if v1 = 0 then some (false, w_1) else if v1 = 1 then some (true, w_1) else none)
def fX12_test_85 (c_ors :  Wd → Option (Bool × Wd)) (c_test :  Wd → Option (Bool × Wd)) (s0 : Int32) (w : Wd) : Option (Bool × Wd) :=
  (fX12_sign (41 : Int32) w).bind fun v_1 => (
  if v_1.1 = true then (
    fX12_test_100 c_ors c_test s0 v_1.2)
  else (
    nw (si v_1.2 148 26 (1 : Int32)) fun w_3 => (
    fX12_test_100 c_ors c_test s0 w_3)))
def fX12_test_84 (c_ors :  Wd → Option (Bool × Wd)) (c_test :  Wd → Option (Bool × Wd)) (w : Wd) : Option (Bool × Wd) :=
  fX12_test_85 c_ors c_test (0 : Int32) w
def fX12_test_154 (c_ors :  Wd → Option (Bool × Wd)) (c_test :  Wd → Option (Bool × Wd)) (v1 : Int32) (v2 : Int32) (w : Wd) : Option (Bool × Wd) :=
  nw (si w 148 24 ((w.1 148 24) + (1 : Int32))) fun w_1 => (
  (fX12_sum w_1).bind fun v_2 => (
  if v2 = (60 : Int32) then (
    if v1 < v_2.1 then (
      some (true, v_2.2))
    else (
      some (false, v_2.2)))
  else (
    if v2 = (61 : Int32) then (
      if v1 = v_2.1 then (
        some (true, v_2.2))
      else (
        some (false, v_2.2)))
    else (
      if v_2.1 < v1 then (
        some (true, v_2.2))
      else (
        some (false, v_2.2))))))
def fX12_test_147 (c_ors :  Wd → Option (Bool × Wd)) (c_test :  Wd → Option (Bool × Wd)) (w : Wd) : Option (Bool × Wd) :=
  nw (si w 148 26 (1 : Int32)) fun w_1 => (
  some (false, w_1))
def fX12_test (c_ors :  Wd → Option (Bool × Wd)) (c_test :  Wd → Option (Bool × Wd)) (w : Wd) : Option (Bool × Wd) :=
  (fX12_here w).bind fun v_1 => (
  if v_1 = (33 : Int32) then (
    (fX12_opens w).bind fun v_3 => (
    if (v_3.1 148 26) = 0 then (
      (c_test v_3).bind fun v_5 => (
      if v_5.1 = true then (
        fX12_test_32 c_ors c_test (1 : Int32) v_5.2)
      else (
        fX12_test_31 c_ors c_test v_5.2)))
    else (
      fX12_test_31 c_ors c_test v_3)))
  else (
    (fX12_here w).bind fun v_7 => (
    if v_7 = (40 : Int32) then (
      (fX12_opens w).bind fun v_9 => (
      if (v_9.1 148 26) = 0 then (
        (c_ors v_9).bind fun v_11 => (
        if v_11.1 = true then (
          fX12_test_85 c_ors c_test (1 : Int32) v_11.2)
        else (
          fX12_test_84 c_ors c_test v_11.2)))
      else (
        fX12_test_84 c_ors c_test v_9)))
    else (
      (fX12_sum w).bind fun v_13 => (
      (fX12_here v_13.2).bind fun v_14 => (
      if (v_13.2.1 148 26) = 0 then (
        if v_14 = (60 : Int32) then (
          fX12_test_154 c_ors c_test v_13.1 v_14 v_13.2)
        else (
          if v_14 = (61 : Int32) then (
            fX12_test_154 c_ors c_test v_13.1 v_14 v_13.2)
          else (
            if v_14 = (62 : Int32) then (
              fX12_test_154 c_ors c_test v_13.1 v_14 v_13.2)
            else (
              fX12_test_147 c_ors c_test v_13.2))))
      else (
        fX12_test_147 c_ors c_test v_13.2)))))))

def kMT : Nat → Wd → Option (Bool × Wd)
  | 0 => fun _ => none
  | n + 1 => fX12_test (fX12_ors (kMT n)) (kMT n)
def kMO (w : Wd) : Option (Bool × Wd) := fX12_ors (kMT 6) w

def fX2_restart (z : Nat) (w : Wd) : Option Wd :=
  nw (flI w (z + 3) 100 (100 : Int32)) fun w_1 => (
  nw (flI w_1 (z + 4) 100 (0 : Int32)) fun w_2 => (
  nw (flI w_2 (z + 5) 100 (0 : Int32)) fun w_3 => (
  nw (flI w_3 (z + 6) 100 (50 : Int32)) fun w_4 => (
  nw (flI w_4 (z + 7) 100 (0 : Int32)) fun w_5 => (
  nw (flI w_5 (z + 8) 100 (0 : Int32)) fun w_6 => (
  nw (flI w_6 (z + 9) 100 (-1 : Int32)) fun w_7 => (
  nw (flI w_7 (z + 10) 100 (0 : Int32)) fun w_8 => (
  nw (flI w_8 (z + 11) 100 (0 : Int32)) fun w_9 => (
  nw (flI w_9 (z + 12) 100 (0 : Int32)) fun w_10 => (
  nw (flI w_10 (z + 13) 100 (0 : Int32)) fun w_11 => (
  some w_11)))))))))))

def fX11_copyRow (v0 : Nat) (n0 : Nat) (v1 : Nat) (n1 : Nat) (w : Wd) : Option Wd :=
  if cpok (0 : Int32) (0 : Int32) (mmin (Int32.ofNat n0) (Int32.ofNat n1)) n0 n1 = true then (
  nw (cpI w v0 (0 : Int32) v1 (0 : Int32) (mmin (Int32.ofNat n0) (Int32.ofNat n1))) fun w_1 => (
  some w_1)) else none

def fX2_become (z : Nat) (y : Nat) (w : Wd) : Option Wd :=
  (fX11_copyRow (y + 3) 100 (z + 3) 100 w).bind fun v_1 => (
  (fX11_copyRow (y + 4) 100 (z + 4) 100 v_1).bind fun v_2 => (
  (fX11_copyRow (y + 5) 100 (z + 5) 100 v_2).bind fun v_3 => (
  (fX11_copyRow (y + 6) 100 (z + 6) 100 v_3).bind fun v_4 => (
  (fX11_copyRow (y + 7) 100 (z + 7) 100 v_4).bind fun v_5 => (
  (fX11_copyRow (y + 8) 100 (z + 8) 100 v_5).bind fun v_6 => (
  (fX11_copyRow (y + 9) 100 (z + 9) 100 v_6).bind fun v_7 => (
  (fX11_copyRow (y + 10) 100 (z + 10) 100 v_7).bind fun v_8 => (
  (fX11_copyRow (y + 11) 100 (z + 11) 100 v_8).bind fun v_9 => (
  (fX11_copyRow (y + 12) 100 (z + 12) 100 v_9).bind fun v_10 => (
  (fX11_copyRow (y + 13) 100 (z + 13) 100 v_10).bind fun v_11 => (
  some v_11)))))))))))

def fX3_become (z : Nat) (y : Nat) (w : Wd) : Option Wd :=
  (fX11_copyRow (y + 20) 100 (z + 20) 100 w).bind fun v_1 => (
  (fX11_copyRow (y + 21) 100 (z + 21) 100 v_1).bind fun v_2 => (
  (fX11_copyRow (y + 22) 100 (z + 22) 100 v_2).bind fun v_3 => (
  (fX11_copyRow (y + 23) 100 (z + 23) 100 v_3).bind fun v_4 => (
  (fX11_copyRow (y + 24) 100 (z + 24) 100 v_4).bind fun v_5 => (
  (fX11_copyRow (y + 25) 100 (z + 25) 100 v_5).bind fun v_6 => (
  (fX11_copyRow (y + 26) 100 (z + 26) 100 v_6).bind fun v_7 => (
  (fX11_copyRow (y + 27) 100 (z + 27) 100 v_7).bind fun v_8 => (
  (fX11_copyRow (y + 28) 100 (z + 28) 100 v_8).bind fun v_9 => (
  (fX11_copyRow (y + 29) 100 (z + 29) 100 v_9).bind fun v_10 => (
  some v_10))))))))))

def fX5_become (v0 : Nat) (v1 : Nat) (w : Wd) : Option Wd :=
  nw (si w v0 0 (w.1 v1 0)) fun w_1 => (
  nw (si w_1 v0 1 (w_1.1 v1 1)) fun w_2 => (
  nw (si w_2 v0 2 (w_2.1 v1 2)) fun w_3 => (
  nw (si w_3 v0 3 (w_3.1 v1 3)) fun w_4 => (
  nw (si w_4 v0 4 (w_4.1 v1 4)) fun w_5 => (
  (fX11_copyRow (v1 + 1) 19 (v0 + 1) 19 w_5).bind fun v_6 => (
  (fX11_copyRow (v1 + 2) 19 (v0 + 2) 19 v_6).bind fun v_7 => (
  (fX11_copyRow (v1 + 3) 19 (v0 + 3) 19 v_7).bind fun v_8 => (
  (fX11_copyRow (v1 + 4) 19 (v0 + 4) 19 v_8).bind fun v_9 => (
  (fX11_copyRow (v1 + 5) 19 (v0 + 5) 19 v_9).bind fun v_10 => (
  (fX11_copyRow (v1 + 6) 19 (v0 + 6) 19 v_10).bind fun v_11 => (
  some v_11)))))))))))

def fX6_become (z : Nat) (y : Nat) (w : Wd) : Option Wd :=
  nw (si w (z + 30) 0 (w.1 (y + 30) 0)) fun w_1 => (
  (fX11_copyRow (y + 31) 200 (z + 31) 200 w_1).bind fun v_2 => (
  (fX11_copyRow (y + 32) 200 (z + 32) 200 v_2).bind fun v_3 => (
  (fX11_copyRow (y + 33) 200 (z + 33) 200 v_3).bind fun v_4 => (
  (fX11_copyRow (y + 34) 200 (z + 34) 200 v_4).bind fun v_5 => (
  some v_5)))))

def fX10_become (z : Nat) (y : Nat) (w : Wd) : Option Wd :=
  (fX11_copyRow (y + 15) 100 (z + 15) 100 w).bind fun v_1 => (
  (fX11_copyRow (y + 16) 100 (z + 16) 100 v_1).bind fun v_2 => (
  (fX11_copyRow (y + 17) 100 (z + 17) 100 v_2).bind fun v_3 => (
  (fX11_copyRow (y + 18) 100 (z + 18) 100 v_3).bind fun v_4 => (
  nw (si v_4 (z + 14) 4 (v_4.1 (y + 14) 4)) fun w_5 => (
  nw (si w_5 (z + 14) 5 (w_5.1 (y + 14) 5)) fun w_6 => (
  nw (si w_6 (z + 14) 6 (w_6.1 (y + 14) 6)) fun w_7 => (
  nw (si w_7 (z + 14) 7 (w_7.1 (y + 14) 7)) fun w_8 => (
  nw (si w_8 (z + 14) 8 (w_8.1 (y + 14) 8)) fun w_9 => (
  nw (si w_9 (z + 14) 9 (w_9.1 (y + 14) 9)) fun w_10 => (
  nw (si w_10 (z + 14) 10 (w_10.1 (y + 14) 10)) fun w_11 => (
  some w_11)))))))))))

def fX0_become_54 (z : Nat) (y : Nat) : Nat → Int32 → Wd → Option Wd
  | 0, _, _ => none
  | n + 1, v2, w =>
  if v2 < (w.1 (z + 1) 5) then (
    if inb v2 8 = true then (
    (fX5_become (z + 36 + 7 * (v2).toNatClampNeg) (y + 36 + 7 * (v2).toNatClampNeg) w).bind fun v_3 => (
    (fX0_become_54 z y n) (v2 + (1 : Int32)) v_3)) else none)
  else (
    nw (si w (z + 1) 6 (w.1 (y + 1) 6)) fun w_4 => (
    nw (si w_4 (z + 1) 7 (w_4.1 (y + 1) 7)) fun w_5 => (
    nw (si w_5 (z + 1) 8 (w_5.1 (y + 1) 8)) fun w_6 => (
    nw (si w_6 (z + 1) 9 (w_6.1 (y + 1) 9)) fun w_7 => (
    nw (si w_7 (z + 1) 10 (w_7.1 (y + 1) 10)) fun w_8 => (
    nw (si w_8 (z + 1) 11 (w_8.1 (y + 1) 11)) fun w_9 => (
    nw (si w_9 (z + 1) 12 (w_9.1 (y + 1) 12)) fun w_10 => (
    some w_10))))))))
def fX0_become (z : Nat) (y : Nat) (w : Wd) : Option Wd :=
  (fX2_become z y w).bind fun v_1 => (
  (fX10_become z y v_1).bind fun v_2 => (
  (fX3_become z y v_2).bind fun v_3 => (
  (fX6_become z y v_3).bind fun v_4 => (
  nw (si v_4 (z + 1) 5 (v_4.1 (y + 1) 5)) fun w_5 => (
  fX0_become_54 z y FU (0 : Int32) w_5)))))

def fX0_depthOn (v1 : Nat) (v2 : Int32) (w : Wd) : Option Int32 :=
  if inb v2 19 = true then (
  if inb (ri w (v1 + 1) v2) 100 = true then (
  some ((ri w 3 (ri w (v1 + 1) v2)) - (ri w (v1 + 2) v2))) else none) else none

def fX0_today (w : Wd) : Option Int32 :=
  some ((w.1 1 6) / (24 : Int32))

def fX5_strength_53 (v0 : Nat) (v1 : Int32) (v3 : Int32) (w : Wd) : Option Int32 :=
  if inb v1 19 = true then (
  if (ri w (v0 + 6) v1) = (1 : Int32) then (
    some (v3 / (2 : Int32)))
  else (
    some v3)) else none
def fX5_strength_31 (v0 : Nat) (v1 : Int32) (s0 : Int32) (w : Wd) : Option Int32 :=
  if (w.1 v0 1) = 0 then (
    if inb v1 19 = true then (
    if (ri w (v0 + 5) v1) = (1 : Int32) then (
      fX5_strength_53 v0 v1 (s0 / (2 : Int32)) w)
    else (
      fX5_strength_53 v0 v1 s0 w)) else none)
  else (
    fX5_strength_53 v0 v1 s0 w)
def fX5_strength (v0 : Nat) (v1 : Int32) (v2 : Int32) (w : Wd) : Option Int32 :=
  if (w.1 v0 1) = 0 then (
    fX5_strength_31 v0 v1 (mmin (100 : Int32) ((2 : Int32) * v2)) w)
  else (
    fX5_strength_31 v0 v1 (mmin (300 : Int32) ((10 : Int32) + ((6 : Int32) * v2))) w)

def fX0_lineCarries_16 (w : Wd) : Nat → Nat → Int32 → Int32 → Option Bool
  | 0, _, _, _ => none
  | n + 1, v1, v2, v3 =>
  if v3 < (w.1 v1 3) then (
    if inb v3 19 = true then (
    (fX5_strength v1 v3 (v2 - (ri w (v1 + 4) v3)) w).bind fun v_3 => (
    (fX0_depthOn v1 v3 w).bind fun v_4 => (
    if v_3 < v_4 then (
      some false)
    else (
      (fX0_lineCarries_16 w n) v1 v2 (v3 + (1 : Int32)))))) else none)
  else (
    some true)
def fX0_lineCarries (v1 : Nat) (w : Wd) : Option Bool :=
  if 0 < (w.1 v1 4) then (
    some false)
  else (
    (fX0_today w).bind fun v_2 => (
    fX0_lineCarries_16 w FU v1 v_2 (0 : Int32)))

def fX0_carryingLines_4 (w : Wd) : Nat → Int32 → Int32 → Option Int32
  | 0, _, _ => none
  | n + 1, v1, v2 =>
  if v2 < (w.1 1 5) then (
    if inb v2 8 = true then (
    (fX0_lineCarries (36 + 7 * (v2).toNatClampNeg) w).bind fun v_3 => (
    if v_3 = true then (
      (fX0_carryingLines_4 w n) (v1 ||| ((1 : Int32) <<< (v2 &&& 31))) (v2 + (1 : Int32)))
    else (
      (fX0_carryingLines_4 w n) v1 (v2 + (1 : Int32))))) else none)
  else (
    some v1)
def fX0_carryingLines (w : Wd) : Option Int32 :=
  fX0_carryingLines_4 w FU (0 : Int32) (0 : Int32)

def fX2_digAt (v1 : Int32) (v2 : Int32) (w : Wd) : Option Int32 :=
  if inb v1 100 = true then (
  if 0 < ((ri w 3 v1) - v2) then (
    some (((ri w 3 v1) - v2) * ((2 : Int32) + (ri w 4 v1))))
  else (
    some ((9 : Int32) * (-((ri w 3 v1) - v2))))) else none

def fX0_costOf_4 (w : Wd) : Nat → Nat → Int32 → Int32 → Option Int32
  | 0, _, _, _ => none
  | n + 1, v1, v2, v3 =>
  if v3 < (w.1 v1 3) then (
    if inb v3 19 = true then (
    (fX2_digAt (ri w (v1 + 1) v3) (ri w (v1 + 2) v3) w).bind fun v_3 => (
    (fX0_costOf_4 w n) v1 (v2 + (v_3 + ((10 : Int32) * (w.1 v1 0)))) (v3 + (1 : Int32)))) else none)
  else (
    some v2)
def fX0_costOf (v1 : Nat) (w : Wd) : Option Int32 :=
  fX0_costOf_4 w FU v1 (0 : Int32) (0 : Int32)

def fX5_placeOf_2 (w : Wd) : Nat → Nat → Int32 → Int32 → Option Int32
  | 0, _, _, _ => none
  | n + 1, v0, v1, v2 =>
  if v2 < (w.1 v0 3) then (
    if v2 < (19 : Int32) then (
      if inb v2 19 = true then (
      if (ri w (v0 + 1) v2) = v1 then (
        some v2)
      else (
        (fX5_placeOf_2 w n) v0 v1 (v2 + (1 : Int32)))) else none)
    else (
      some (-1 : Int32)))
  else (
    some (-1 : Int32))
def fX5_placeOf (v0 : Nat) (v1 : Int32) (w : Wd) : Option Int32 :=
  fX5_placeOf_2 w FU v0 v1 (0 : Int32)

def fX0_deepest_62 (k7 : Int32 → Int32 → Int32 → Int32 → Option Int32) (v1 : Int32) (v4 : Int32) (v6 : Int32) (w : Wd) : Option Int32 :=
  k7 v1 v6 (1 : Int32) (v4 + (1 : Int32))
def fX0_deepest_7 (w : Wd) : Nat → Int32 → Int32 → Int32 → Int32 → Option Int32
  | 0, _, _, _, _ => none
  | n + 1, v1, v2, v3, v4 =>
  if v4 < (w.1 1 5) then (
    if inb v4 8 = true then (
    (fX5_placeOf (36 + 7 * (v4).toNatClampNeg) v1 w).bind fun v_3 => (
    if v_3 < 0 then (
      (fX0_deepest_7 w n) v1 v2 v3 (v4 + (1 : Int32)))
    else (
      (fX0_depthOn (36 + 7 * (v4).toNatClampNeg) v_3 w).bind fun v_5 => (
      if v3 = 0 then (
        fX0_deepest_62 (fX0_deepest_7 w n) v1 v4 v_5 w)
      else (
        if v2 < v_5 then (
          fX0_deepest_62 (fX0_deepest_7 w n) v1 v4 v_5 w)
        else (
          (fX0_deepest_7 w n) v1 v2 (1 : Int32) (v4 + (1 : Int32)))))))) else none)
  else (
    some v2)
def fX0_deepest (v1 : Int32) (w : Wd) : Option Int32 :=
  fX0_deepest_7 w FU v1 (0 : Int32) (0 : Int32) (0 : Int32)

def fX4_bounded (v0 : Int64) (w : Wd) : Option Int64 :=
  some (lmax (-1000000 : Int64) (lmin (1000000 : Int64) v0))

def fX4_done (v0 : Int32) (v1 : Int64) (v3 : Int64) (w : Wd) : Option Int64 :=
  if v0 = (38 : Int32) then (
    some (v1 &&& v3))
  else if v0 = (42 : Int32) then (
    (fX4_bounded (v1 * v3) w).bind fun v_2 => (
    some v_2))
  else if v0 = (43 : Int32) then (
    (fX4_bounded (v1 + v3) w).bind fun v_4 => (
    some v_4))
  else if v0 = (45 : Int32) then (
    (fX4_bounded (v1 - v3) w).bind fun v_6 => (
    some v_6))
  else if v0 = (60 : Int32) then (
    if v1 < v3 then (
      some (1 : Int64))
    else (
      some (0 : Int64)))
  else if v0 = (61 : Int32) then (
    if v1 = v3 then (
      some (1 : Int64))
    else (
      some (0 : Int64)))
  else if v0 = (62 : Int32) then (
    if v3 < v1 then (
      some (1 : Int64))
    else (
      some (0 : Int64)))
  else (
  some (v1 ||| v3))

def fX5_inWork (v0 : Nat) (w : Wd) : Option Int32 :=
  if (19 : Int32) < (w.1 v0 4) then (
    some (-1 : Int32))
  else (
    some ((w.1 v0 4) - (1 : Int32)))

def fX0_isShut_2 (w : Wd) : Nat → Int32 → Int32 → Option Bool
  | 0, _, _ => none
  | n + 1, v1, v2 =>
  if v2 < (w.1 1 5) then (
    if inb v2 8 = true then (
    (fX5_inWork (36 + 7 * (v2).toNatClampNeg) w).bind fun v_3 => (
    if 0 < (w.1 (36 + 7 * (v2).toNatClampNeg) 2) then (
      if v_3 < 0 then (
        (fX0_isShut_2 w n) v1 (v2 + (1 : Int32)))
      else (
        if inb v_3 19 = true then (
        if (ri w ((36 + 7 * (v2).toNatClampNeg) + 1) v_3) = v1 then (
          some true)
        else (
          (fX0_isShut_2 w n) v1 (v2 + (1 : Int32)))) else none))
    else (
      (fX0_isShut_2 w n) v1 (v2 + (1 : Int32))))) else none)
  else (
    some false)
def fX0_isShut (v1 : Int32) (w : Wd) : Option Bool :=
  fX0_isShut_2 w FU v1 (0 : Int32)

def fX11_beside (v0 : Int32) (v1 : Int32) (w : Wd) : Option Int32 :=
  if v1 = (0 : Int32) then (
    if v0 < (10 : Int32) then (
      some (-1 : Int32))
    else (
      some (v0 - (10 : Int32))))
  else if v1 = (1 : Int32) then (
    if 0 < (jrm v0 (10 : Int32)) then (
      some (v0 - (1 : Int32)))
    else (
      some (-1 : Int32)))
  else if v1 = (2 : Int32) then (
    if (jrm v0 (10 : Int32)) < (9 : Int32) then (
      some (v0 + (1 : Int32)))
    else (
      some (-1 : Int32)))
  else (
  if v0 < (90 : Int32) then (
    some (v0 + (10 : Int32)))
  else (
    some (-1 : Int32)))

def fX0_shutBeside_4 (w : Wd) : Nat → Int32 → Int32 → Int32 → Option Int32
  | 0, _, _, _ => none
  | n + 1, v1, v2, v3 =>
  if v3 < (4 : Int32) then (
    (fX11_beside v1 v3 w).bind fun v_2 => (
    if v_2 = (-1 : Int32) then (
      (fX0_shutBeside_4 w n) v1 v2 (v3 + (1 : Int32)))
    else (
      (fX0_isShut v_2 w).bind fun v_4 => (
      if v_4 = true then (
        (fX0_shutBeside_4 w n) v1 (v2 + (1 : Int32)) (v3 + (1 : Int32)))
      else (
        (fX0_shutBeside_4 w n) v1 v2 (v3 + (1 : Int32)))))))
  else (
    some v2)
def fX0_shutBeside (v1 : Int32) (w : Wd) : Option Int32 :=
  fX0_shutBeside_4 w FU v1 (0 : Int32) (0 : Int32)

def fX6_tellingsOf_4 (w : Wd) : Nat → Int32 → Int32 → Int32 → Option Int32
  | 0, _, _, _ => none
  | n + 1, v1, v2, v3 =>
  if v3 < (w.1 30 0) then (
    if inb v3 200 = true then (
    if (ri w 31 v3) = v1 then (
      (fX6_tellingsOf_4 w n) v1 (v2 + (1 : Int32)) (v3 + (1 : Int32)))
    else (
      (fX6_tellingsOf_4 w n) v1 v2 (v3 + (1 : Int32)))) else none)
  else (
    some v2)
def fX6_tellingsOf (v1 : Int32) (w : Wd) : Option Int32 :=
  fX6_tellingsOf_4 w FU v1 (0 : Int32) (0 : Int32)

def fX9_levelAt (v1 : Int32) (w : Wd) : Option Int32 :=
  if 0 < (w.1 100 0) then (
    if v1 < 0 then (
      some (0 : Int32))
    else (
      if (w.1 100 0) = 0 then none else (
      if inb (jrm v1 (w.1 100 0)) 60 = true then (
      some (ri w 101 (jrm v1 (w.1 100 0)))) else none)))
  else (
    some (0 : Int32))

def fX10_inCellars (v1 : Int32) (w : Wd) : Option Int64 :=
  if inb v1 100 = true then (
  some ((ri w 17 v1).toInt64 + (ri w 18 v1).toInt64)) else none

def fX4_factAt_207 (v2 : Int32) (w : Wd) : Option Int64 :=
  (fX0_shutBeside v2 w).bind fun v_1 => (
  some v_1.toInt64)
def fX4_factAt (v1 : Int32) (v2 : Int32) (w : Wd) : Option Int64 :=
  if v1 = (99 : Int32) then (
    (fX10_inCellars v2 w).bind fun v_1 => (
    some v_1))
  else if v1 = (100 : Int32) then (
    (fX0_deepest v2 w).bind fun v_3 => (
    some v_3.toInt64))
  else if v1 = (102 : Int32) then (
    if inb v2 100 = true then (
    some ((ri w 15 v2).toInt64)) else none)
  else if v1 = (104 : Int32) then (
    if inb v2 100 = true then (
    some ((ri w 3 v2).toInt64)) else none)
  else if v1 = (107 : Int32) then (
    (fX0_today w).bind fun v_9 => (
    some v_9.toInt64))
  else if v1 = (109 : Int32) then (
    (fX6_tellingsOf v2 w).bind fun v_11 => (
    some v_11.toInt64))
  else if v1 = (111 : Int32) then (
    some ((jrm (w.1 1 6) (24 : Int32)).toInt64))
  else if v1 = (112 : Int32) then (
    if inb v2 100 = true then (
    some ((ri w 5 v2).toInt64)) else none)
  else if v1 = (115 : Int32) then (
    if inb v2 100 = true then (
    some ((ri w 4 v2).toInt64)) else none)
  else if v1 = (116 : Int32) then (
    if inb v2 100 = true then (
    some ((ri w 6 v2).toInt64)) else none)
  else if v1 = (119 : Int32) then (
    (fX9_levelAt (w.1 1 6) w).bind fun v_20 => (
    some v_20.toInt64))
  else (
  fX4_factAt_207 v2 w)

def fX4_ruling_5 (w : Wd) : Nat → Int32 → Int32 → Int32 → Int32 → Option Int32
  | 0, _, _, _, _ => none
  | n + 1, v1, v2, v3, v4 =>
  if v4 < (w.1 106 0) then (
    if inb v4 20 = true then (
    if (ri w 107 v4) = v1 then (
      if v2 < (ri w 108 v4) then (
        (fX4_ruling_5 w n) v1 v2 v3 (v4 + (1 : Int32)))
      else (
        if v3 < 0 then (
          (fX4_ruling_5 w n) v1 v2 v4 (v4 + (1 : Int32)))
        else (
          if inb v3 20 = true then (
          if (ri w 108 v4) < (ri w 108 v3) then (
            (fX4_ruling_5 w n) v1 v2 v3 (v4 + (1 : Int32)))
          else (
            (fX4_ruling_5 w n) v1 v2 v4 (v4 + (1 : Int32)))) else none)))
    else (
      (fX4_ruling_5 w n) v1 v2 v3 (v4 + (1 : Int32)))) else none)
  else (
    some v3)
def fX4_ruling (v1 : Int32) (v2 : Int32) (w : Wd) : Option Int32 :=
  fX4_ruling_5 w FU v1 v2 (-1 : Int32) (0 : Int32)

def fX4_allow_99 (k33 : Int32 → Int32 → Int32 → Int32 → Wd → Option (Bool × Wd)) (v2 : Int32) (v5 : Int32) (v6 : Int32) (v7 : Int32) (s1 : Int32) (s2 : Int64) (w : Wd) : Option (Bool × Wd) :=
  if inb s1 100 = true then (
  nw (wl w 112 s1 s2) fun w_2 => (
  k33 v2 v5 (v6 + (1 : Int32)) (v7 + (1 : Int32)) w_2)) else none
def fX4_allow_33 : Nat → Int32 → Int32 → Int32 → Int32 → Wd → Option (Bool × Wd)
  | 0, _, _, _, _, _ => none
  | n + 1, v2, v5, v6, v7, w =>
  if inb v5 20 = true then (
  if v7 < (ri w 109 v5) then (
    if inb v7 60 = true then (
    if (ri w (114 + (v5).toNatClampNeg) v7) < (20000 : Int32) then (
      if (ri w (114 + (v5).toNatClampNeg) v7) < (10000 : Int32) then (
        fX4_allow_99 (fX4_allow_33 n) v2 v5 v6 v7 v6 ((ri w (114 + (v5).toNatClampNeg) v7).toInt64) w)
      else (
        (fX4_factAt ((ri w (114 + (v5).toNatClampNeg) v7) - (10000 : Int32)) v2 w).bind fun v_6 => (
        fX4_allow_99 (fX4_allow_33 n) v2 v5 v6 v7 v6 v_6 w)))
    else (
      if (ri w (114 + (v5).toNatClampNeg) v7) = (20033 : Int32) then (
        if 0 < v6 then (
          if inb (v6 - (1 : Int32)) 100 = true then (
          nw (wl w 112 (v6 - (1 : Int32)) ((1 : Int64) - (rl w 112 (v6 - (1 : Int32))))) fun w_10 => (
          (fX4_allow_33 n) v2 v5 v6 (v7 + (1 : Int32)) w_10)) else none)
        else (
          (fX4_allow_33 n) v2 v5 v6 (v7 + (1 : Int32)) w))
      else (
        if (1 : Int32) < v6 then (
          if inb ((v6 + (-1 : Int32)) - (1 : Int32)) 100 = true then (
          if inb (v6 + (-1 : Int32)) 100 = true then (
          (fX4_done ((ri w (114 + (v5).toNatClampNeg) v7) - (20000 : Int32)) (rl w 112 ((v6 + (-1 : Int32)) - (1 : Int32))) (rl w 112 (v6 + (-1 : Int32))) w).bind fun v_14 => (
          nw (wl w 112 ((v6 + (-1 : Int32)) - (1 : Int32)) v_14) fun w_15 => (
          (fX4_allow_33 n) v2 v5 (v6 + (-1 : Int32)) (v7 + (1 : Int32)) w_15))) else none) else none)
        else (
          (fX4_allow_33 n) v2 v5 v6 (v7 + (1 : Int32)) w)))) else none)
  else (
    if (rl w 112 (0 : Int32)) = (0 : Int64) then (
      some (false, w))
    else (
      some (true, w)))) else none
def fX4_allow (v1 : Int32) (v2 : Int32) (w : Wd) : Option (Bool × Wd) :=
  (fX0_today w).bind fun v_1 => (
  (fX4_ruling v1 v_1 w).bind fun v_2 => (
  if v_2 < 0 then (
    if v1 = (1 : Int32) then (
      some (false, w))
    else (
      some (true, w)))
  else (
    fX4_allow_33 FU v2 v_2 (0 : Int32) (0 : Int32) w)))

def fX0_pullWalls_89 (k18 : Int32 → Int32 → Int32 → Wd → Option Wd) (v1 : Int32) (v5 : Int32) (v6 : Int32) (v7 : Int32) (s0 : Int32) (s1 : Int32) (w : Wd) : Option Wd :=
  if s1 = 0 then none else (
  if inb v7 100 = true then (
  if 0 < ((s0 / s1) - (ri w 6 v7)) then (
    nw (wi w 12 v7 (1 : Int32)) fun w_3 => (
    (fX4_allow (1 : Int32) v7 w_3).bind fun v_4 => (
    if v_4.1 = true then (
      nw (si v_4.2 1 11 ((v_4.2.1 1 11) + ((ri w_3 5 v7) * ((s0 / s1) - (ri w 6 v7))))) fun w_6 => (
      k18 v1 v5 (v6 + (1 : Int32)) w_6))
    else (
      nw (si v_4.2 1 12 ((v_4.2.1 1 12) + ((ri w_3 5 v7) * ((s0 / s1) - (ri w 6 v7))))) fun w_7 => (
      k18 v1 v5 (v6 + (1 : Int32)) w_7)))))
  else (
    k18 v1 v5 (v6 + (1 : Int32)) w)) else none)
def fX0_pullWalls_39 (k18 : Int32 → Int32 → Int32 → Wd → Option Wd) (v1 : Int32) (v5 : Int32) (v6 : Int32) (s0 : Int32) (w : Wd) : Option Wd :=
  if s0 = (-1 : Int32) then (
    k18 v1 v5 (v6 + (1 : Int32)) w)
  else (
    if inb s0 100 = true then (
    if (ri w 12 s0) = (1 : Int32) then (
      k18 v1 v5 (v6 + (1 : Int32)) w)
    else (
      if (ri w 5 s0) = 0 then (
        k18 v1 v5 (v6 + (1 : Int32)) w)
      else (
        if v6 < 0 then (
          fX0_pullWalls_89 k18 v1 v5 v6 s0 v5 (2 : Int32) w)
        else (
          fX0_pullWalls_89 k18 v1 v5 v6 s0 v5 (4 : Int32) w)))) else none)
def fX0_pullWalls_18 : Nat → Int32 → Int32 → Int32 → Wd → Option Wd
  | 0, _, _, _, _ => none
  | n + 1, v1, v5, v6, w =>
  if v6 < (4 : Int32) then (
    if v6 < 0 then (
      fX0_pullWalls_39 (fX0_pullWalls_18 n) v1 v5 v6 v1 w)
    else (
      (fX11_beside v1 v6 w).bind fun v_3 => (
      fX0_pullWalls_39 (fX0_pullWalls_18 n) v1 v5 v6 v_3 w)))
  else (
    some w)
def fX0_pullWalls (v1 : Int32) (v2 : Int32) (w : Wd) : Option Wd :=
  if inb v1 100 = true then (
  fX0_pullWalls_18 FU v1 (v2 * ((1 : Int32) + (ri w 4 v1))) (-1 : Int32) w) else none

def fX10_inDrain (v1 : Int32) (w : Wd) : Option Int64 :=
  if inb v1 100 = true then (
  some ((ri w 15 v1).toInt64 + (ri w 16 v1).toInt64)) else none

def fX0_doDaysWork_246 (k15 : Int32 → Wd → Option Wd) (v3 : Int32) (v4 : Nat) (s0 : Nat) (s1 : Int32) (s2 : Int32) (w : Wd) : Option Wd :=
  if inb s1 19 = true then (
  nw (wi w s0 s1 s2) fun w_2 => (
  nw (si w_2 v4 4 ((w_2.1 v4 4) - (1 : Int32))) fun w_3 => (
  k15 (v3 + (1 : Int32)) w_3))) else none
def fX0_doDaysWork_15 : Nat → Int32 → Wd → Option Wd
  | 0, _, _ => none
  | n + 1, v3, w =>
  if v3 < (w.1 1 5) then (
    if inb v3 8 = true then (
    (fX5_inWork (36 + 7 * (v3).toNatClampNeg) w).bind fun v_3 => (
    if (w.1 (36 + 7 * (v3).toNatClampNeg) 2) = 0 then (
      (fX0_doDaysWork_15 n) (v3 + (1 : Int32)) w)
    else (
      if v_3 < 0 then (
        (fX0_doDaysWork_15 n) (v3 + (1 : Int32)) w)
      else (
        if inb v_3 19 = true then (
        (fX2_digAt (ri w ((36 + 7 * (v3).toNatClampNeg) + 1) v_3) (ri w ((36 + 7 * (v3).toNatClampNeg) + 2) v_3) w).bind fun v_7 => (
        (fX4_allow (0 : Int32) (ri w ((36 + 7 * (v3).toNatClampNeg) + 1) v_3) w).bind fun v_8 => (
        if v_8.1 = true then (
          if (ri v_8.2 ((36 + 7 * (v3).toNatClampNeg) + 3) v_3) < v_7 then (
            nw (wi v_8.2 ((36 + 7 * (v3).toNatClampNeg) + 3) v_3 ((ri v_8.2 ((36 + 7 * (v3).toNatClampNeg) + 3) v_3) + ((40 : Int32) * (v_8.2.1 (36 + 7 * (v3).toNatClampNeg) 2)))) fun w_11 => (
            if (ri w_11 ((36 + 7 * (v3).toNatClampNeg) + 3) v_3) < v_7 then (
              (fX0_doDaysWork_15 n) (v3 + (1 : Int32)) w_11)
            else (
              (fX0_depthOn (36 + 7 * (v3).toNatClampNeg) v_3 w_11).bind fun v_13 => (
              (fX0_pullWalls (ri w ((36 + 7 * (v3).toNatClampNeg) + 1) v_3) v_13 w_11).bind fun v_14 => (
              (fX0_doDaysWork_15 n) (v3 + (1 : Int32)) v_14)))))
          else (
            if (v_8.2.1 1 7) < ((100 : Int32) * (v_8.2.1 (36 + 7 * (v3).toNatClampNeg) 0)) then (
              nw (si v_8.2 1 10 ((v_8.2.1 1 10) + (v_8.2.1 (36 + 7 * (v3).toNatClampNeg) 2))) fun w_16 => (
              (fX0_doDaysWork_15 n) (v3 + (1 : Int32)) w_16))
            else (
              nw (si v_8.2 1 7 ((v_8.2.1 1 7) - ((100 : Int32) * (v_8.2.1 (36 + 7 * (v3).toNatClampNeg) 0)))) fun w_17 => (
              (fX0_today w_17).bind fun v_18 => (
              nw (wi w_17 ((36 + 7 * (v3).toNatClampNeg) + 4) v_3 v_18) fun w_19 => (
              (fX10_inDrain (ri w ((36 + 7 * (v3).toNatClampNeg) + 1) v_3) w_19).bind fun v_20 => (
              if (0 : Int64) < v_20 then (
                fX0_doDaysWork_246 (fX0_doDaysWork_15 n) v3 (36 + 7 * (v3).toNatClampNeg) ((36 + 7 * (v3).toNatClampNeg) + 5) v_3 (1 : Int32) w_19)
              else (
                fX0_doDaysWork_246 (fX0_doDaysWork_15 n) v3 (36 + 7 * (v3).toNatClampNeg) ((36 + 7 * (v3).toNatClampNeg) + 5) v_3 (0 : Int32) w_19))))))))
        else (
          nw (si v_8.2 1 10 ((v_8.2.1 1 10) + (v_8.2.1 (36 + 7 * (v3).toNatClampNeg) 2))) fun w_22 => (
          (fX0_doDaysWork_15 n) (v3 + (1 : Int32)) w_22))))) else none)))) else none)
  else (
    some w)
def fX0_doDaysWork (w : Wd) : Option Wd :=
  nw (si w 1 7 ((w.1 1 7) + (w.1 1 8))) fun w_1 => (
  fX0_doDaysWork_15 FU (0 : Int32) w_1)

def fX11_sumOf_10 (n0 : Nat) (w : Wd) : Nat → Int32 → Nat → Int32 → Int32 → Option Int32
  | 0, _, _, _, _ => none
  | n + 1, v1, v2, v3, v4 =>
  if v4 < v3 then (
    if inb v4 n0 = true then (
    (fX11_sumOf_10 n0 w n) (v1 + (ri w v2 v4)) v2 v3 (v4 + (1 : Int32))) else none)
  else (
    some v1)
def fX11_sumOf (v0 : Nat) (n0 : Nat) (w : Wd) : Option Int32 :=
  fX11_sumOf_10 n0 w FU (0 : Int32) v0 (Int32.ofNat n0) (0 : Int32)

def fX0_foulInAll (w : Wd) : Option Int32 :=
  (fX11_sumOf 15 100 w).bind fun v_1 => (
  (fX11_sumOf 17 100 w).bind fun v_2 => (
  (fX11_sumOf 28 100 w).bind fun v_3 => (
  some ((v_1 + v_2) + v_3))))

def fX0_rainInAll (w : Wd) : Option Int32 :=
  (fX11_sumOf 16 100 w).bind fun v_1 => (
  (fX11_sumOf 18 100 w).bind fun v_2 => (
  (fX11_sumOf 29 100 w).bind fun v_3 => (
  some ((v_1 + v_2) + v_3))))

def fX3_restart (w : Wd) : Option Wd :=
  nw (flI w 20 100 (0 : Int32)) fun w_1 => (
  nw (flI w_1 28 100 (0 : Int32)) fun w_2 => (
  nw (flI w_2 29 100 (0 : Int32)) fun w_3 => (
  some w_3)))

def fX10_restart (w : Wd) : Option Wd :=
  nw (flI w 15 100 (0 : Int32)) fun w_1 => (
  nw (flI w_1 16 100 (0 : Int32)) fun w_2 => (
  nw (flI w_2 17 100 (0 : Int32)) fun w_3 => (
  nw (flI w_3 18 100 (0 : Int32)) fun w_4 => (
  nw (si w_4 14 4 (0 : Int32)) fun w_5 => (
  nw (si w_5 14 5 (0 : Int32)) fun w_6 => (
  nw (si w_6 14 6 (0 : Int32)) fun w_7 => (
  nw (si w_7 14 7 (0 : Int32)) fun w_8 => (
  nw (si w_8 14 8 (0 : Int32)) fun w_9 => (
  nw (si w_9 14 9 (0 : Int32)) fun w_10 => (
  nw (si w_10 14 10 (0 : Int32)) fun w_11 => (
  some w_11)))))))))))

def fX0_restart (w : Wd) : Option Wd :=
  (fX2_restart 0 w).bind fun v_1 => (
  (fX10_restart v_1).bind fun v_2 => (
  (fX3_restart v_2).bind fun v_3 => (
  nw (si v_3 30 0 (0 : Int32)) fun w_4 => (
  nw (si w_4 1 5 (0 : Int32)) fun w_5 => (
  nw (si w_5 1 6 (0 : Int32)) fun w_6 => (
  nw (si w_6 1 7 (0 : Int32)) fun w_7 => (
  nw (si w_7 1 8 (0 : Int32)) fun w_8 => (
  nw (si w_8 1 9 (0 : Int32)) fun w_9 => (
  nw (si w_9 1 10 (0 : Int32)) fun w_10 => (
  nw (si w_10 1 11 (0 : Int32)) fun w_11 => (
  nw (si w_11 1 12 (0 : Int32)) fun w_12 => (
  some w_12))))))))))))

def fX1_cellsCutOff_41 (k7 : Int32 → Wd → Option (Int32 × Wd)) (v3 : Int32) (s1 : Int32) (s2 : Int32) (w : Wd) : Option (Int32 × Wd) :=
  if inb s1 100 = true then (
  nw (wi w 98 s1 s2) fun w_2 => (
  k7 (v3 + (1 : Int32)) w_2)) else none
def fX1_cellsCutOff_97 (k88 : Int32 → Int32 → Wd → Option (Int32 × Wd)) : Nat → Int32 → Int32 → Int32 → Wd → Option (Int32 × Wd)
  | 0, _, _, _, _ => none
  | n + 1, v3, v4, v5, w =>
  if v5 < (4 : Int32) then (
    if inb v4 100 = true then (
    (fX11_beside (ri w 99 v4) v5 w).bind fun v_3 => (
    if v_3 = (-1 : Int32) then (
      (fX1_cellsCutOff_97 k88 n) v3 v4 (v5 + (1 : Int32)) w)
    else (
      if inb v_3 100 = true then (
      if (ri w 98 v_3) = 0 then (
        if v3 < (100 : Int32) then (
          nw (wi w 98 v_3 (2 : Int32)) fun w_8 => (
          if inb v3 100 = true then (
          nw (wi w_8 99 v3 v_3) fun w_10 => (
          (fX1_cellsCutOff_97 k88 n) (v3 + (1 : Int32)) v4 (v5 + (1 : Int32)) w_10)) else none))
        else (
          (fX1_cellsCutOff_97 k88 n) v3 v4 (v5 + (1 : Int32)) w))
      else (
        (fX1_cellsCutOff_97 k88 n) v3 v4 (v5 + (1 : Int32)) w)) else none))) else none)
  else (
    k88 v3 (v4 + (1 : Int32)) w)
def fX1_cellsCutOff_179 : Nat → Int32 → Int32 → Wd → Option (Int32 × Wd)
  | 0, _, _, _ => none
  | n + 1, v4, v5, w =>
  if v5 < (100 : Int32) then (
    if inb v5 100 = true then (
    if 0 < (ri w 5 v5) then (
      if (ri w 7 v5) = 0 then (
        if (ri w 98 v5) = (2 : Int32) then (
          (fX1_cellsCutOff_179 n) v4 (v5 + (1 : Int32)) w)
        else (
          (fX1_cellsCutOff_179 n) (v4 + (1 : Int32)) (v5 + (1 : Int32)) w))
      else (
        (fX1_cellsCutOff_179 n) v4 (v5 + (1 : Int32)) w))
    else (
      (fX1_cellsCutOff_179 n) v4 (v5 + (1 : Int32)) w)) else none)
  else (
    some (v4, w))
def fX1_cellsCutOff_88 : Nat → Int32 → Int32 → Wd → Option (Int32 × Wd)
  | 0, _, _, _ => none
  | n + 1, v3, v4, w =>
  if v4 < v3 then (
    fX1_cellsCutOff_97 (fX1_cellsCutOff_88 n) FU v3 v4 (0 : Int32) w)
  else (
    fX1_cellsCutOff_179 FU (0 : Int32) (0 : Int32) w)
def fX1_cellsCutOff_7 : Nat → Int32 → Wd → Option (Int32 × Wd)
  | 0, _, _ => none
  | n + 1, v3, w =>
  if v3 < (100 : Int32) then (
    if inb v3 100 = true then (
    if (ri w 7 v3) = (1 : Int32) then (
      fX1_cellsCutOff_41 (fX1_cellsCutOff_7 n) v3 v3 (1 : Int32) w)
    else (
      (fX0_isShut v3 w).bind fun v_4 => (
      if v_4 = true then (
        fX1_cellsCutOff_41 (fX1_cellsCutOff_7 n) v3 v3 (1 : Int32) w)
      else (
        fX1_cellsCutOff_41 (fX1_cellsCutOff_7 n) v3 v3 (0 : Int32) w)))) else none)
  else (
    if inb (w.1 1 9) 100 = true then (
    if (ri w 98 (w.1 1 9)) = 0 then (
      nw (wi w 98 (w.1 1 9) (2 : Int32)) fun w_8 => (
      nw (wi w_8 99 (0 : Int32) (w_8.1 1 9)) fun w_9 => (
      fX1_cellsCutOff_88 FU ((0 : Int32) + (1 : Int32)) (0 : Int32) w_9)))
    else (
      fX1_cellsCutOff_88 FU (0 : Int32) (0 : Int32) w)) else none)
def fX1_cellsCutOff (w : Wd) : Option (Int32 × Wd) :=
  fX1_cellsCutOff_7 FU (0 : Int32) w

def fX1_isBadPump_13 (w : Wd) : Nat → Int32 → Int32 → Option Bool
  | 0, _, _ => none
  | n + 1, v2, v3 =>
  if v3 < (4 : Int32) then (
    (fX11_beside v2 v3 w).bind fun v_2 => (
    if v_2 = (-1 : Int32) then (
      (fX1_isBadPump_13 w n) v2 (v3 + (1 : Int32)))
    else (
      if inb v_2 100 = true then (
      if 0 < (ri w 17 v_2) then (
        some true)
      else (
        (fX1_isBadPump_13 w n) v2 (v3 + (1 : Int32)))) else none)))
  else (
    some false)
def fX1_isBadPump (v2 : Int32) (w : Wd) : Option Bool :=
  if inb v2 100 = true then (
  if 0 < (ri w 17 v2) then (
    some true)
  else (
    fX1_isBadPump_13 w FU v2 (0 : Int32))) else none

def fX11_near (v0 : Int32) (v1 : Int32) (w : Wd) : Option Int32 :=
  some ((mabs ((jrm v0 (10 : Int32)) - (jrm v1 (10 : Int32)))) + (mabs ((v0 / (10 : Int32)) - (v1 / (10 : Int32)))))

def fX1_drink_54 (k10 : Int32 → Int32 → Wd → Option Wd) (v3 : Int32) (v4 : Int32) (s1 : Int32) (s2 : Int32) (w : Wd) : Option Wd :=
  if inb s1 100 = true then (
  nw (wi w 98 s1 s2) fun w_2 => (
  if inb v3 100 = true then (
  nw (wi w_2 99 v3 v4) fun w_4 => (
  k10 (v3 + (1 : Int32)) (v4 + (1 : Int32)) w_4)) else none)) else none
def fX1_drink_111 (k80 : Int32 → Int32 → Wd → Option Wd) : Nat → Int32 → Int32 → Int32 → Int32 → Wd → Option Wd
  | 0, _, _, _, _, _ => none
  | n + 1, v3, v4, v5, v6, w =>
  if v6 < v3 then (
    if inb v6 100 = true then (
    (fX11_near v4 (ri w 99 v6) w).bind fun v_3 => (
    (fX11_near v4 v5 w).bind fun v_4 => (
    if v_3 < v_4 then (
      (fX1_drink_111 k80 n) v3 v4 (ri w 99 v6) (v6 + (1 : Int32)) w)
    else (
      (fX1_drink_111 k80 n) v3 v4 v5 (v6 + (1 : Int32)) w)))) else none)
  else (
    if inb v5 100 = true then (
    if (ri w 98 v5) = (1 : Int32) then (
      if inb v4 100 = true then (
      nw (wi w 13 v5 ((ri w 13 v5) + ((ri w 5 v4) / (50 : Int32)))) fun w_9 => (
      k80 v3 (v4 + (1 : Int32)) w_9)) else none)
    else (
      k80 v3 (v4 + (1 : Int32)) w)) else none)
def fX1_drink_80 : Nat → Int32 → Int32 → Wd → Option Wd
  | 0, _, _, _ => none
  | n + 1, v3, v4, w =>
  if v4 < (100 : Int32) then (
    if inb v4 100 = true then (
    if (ri w 5 v4) = 0 then (
      (fX1_drink_80 n) v3 (v4 + (1 : Int32)) w)
    else (
      fX1_drink_111 (fX1_drink_80 n) FU v3 v4 (ri w 99 (0 : Int32)) (1 : Int32) w)) else none)
  else (
    some w)
def fX1_drink_10 : Nat → Int32 → Int32 → Wd → Option Wd
  | 0, _, _, _ => none
  | n + 1, v3, v4, w =>
  if v4 < (100 : Int32) then (
    if inb v4 100 = true then (
    if (ri w 8 v4) = 0 then (
      (fX1_drink_10 n) v3 (v4 + (1 : Int32)) w)
    else (
      (fX1_isBadPump v4 w).bind fun v_4 => (
      if v_4 = true then (
        fX1_drink_54 (fX1_drink_10 n) v3 v4 v4 (1 : Int32) w)
      else (
        fX1_drink_54 (fX1_drink_10 n) v3 v4 v4 (0 : Int32) w)))) else none)
  else (
    if v3 = 0 then (
      some w)
    else (
      fX1_drink_80 FU v3 (0 : Int32) w))
def fX1_drink (w : Wd) : Option Wd :=
  fX1_drink_10 FU (0 : Int32) (0 : Int32) w

def fX1_fillCellars_95 (k2 : Int32 → Wd → Option Wd) (v2 : Int32) (v5 : Int32) (v6 : Int32) (w : Wd) : Option Wd :=
  if inb v2 100 = true then (
  nw (wi w 15 v2 ((ri w 15 v2) - v5)) fun w_2 => (
  nw (wi w_2 16 v2 ((ri w_2 16 v2) - v6)) fun w_3 => (
  nw (wi w_3 17 v2 ((ri w_3 17 v2) + v5)) fun w_4 => (
  nw (wi w_4 18 v2 ((ri w_4 18 v2) + v6)) fun w_5 => (
  k2 (v2 + (1 : Int32)) w_5))))) else none
def fX1_fillCellars_2 : Nat → Int32 → Wd → Option Wd
  | 0, _, _ => none
  | n + 1, v2, w =>
  if v2 < (100 : Int32) then (
    (fX10_inDrain v2 w).bind fun v_2 => (
    if inb v2 100 = true then (
    if (0 : Int64) < (v_2 - (ri w 95 v2).toInt64) then (
      fX1_fillCellars_95 (fX1_fillCellars_2 n) v2 (((v_2 - (ri w 95 v2).toInt64) - ((lmin (v_2 - (ri w 95 v2).toInt64) ((ri w 16 v2).toInt64)).toInt32).toInt64).toInt32) ((lmin (v_2 - (ri w 95 v2).toInt64) ((ri w 16 v2).toInt64)).toInt32) w)
    else (
      fX1_fillCellars_95 (fX1_fillCellars_2 n) v2 (-(mmin ((lmin (-(v_2 - (ri w 95 v2).toInt64)) (5 : Int64)).toInt32) (ri w 17 v2))) (-(mmin ((lmin (-(v_2 - (ri w 95 v2).toInt64)) (5 : Int64)).toInt32 + (-(mmin ((lmin (-(v_2 - (ri w 95 v2).toInt64)) (5 : Int64)).toInt32) (ri w 17 v2)))) (ri w 18 v2))) w)) else none))
  else (
    some w)
def fX1_fillCellars (w : Wd) : Option Wd :=
  fX1_fillCellars_2 FU (0 : Int32) w

def fX1_fillTank (v3 : Int32) (w : Wd) : Option Wd :=
  if inb v3 100 = true then (
  nw (wi w 15 v3 ((ri w 15 v3) - (mmin (ri w 15 v3) (((ri w 25 v3) - (ri w 28 v3)) - (ri w 29 v3))))) fun w_2 => (
  nw (wi w_2 16 v3 ((ri w_2 16 v3) - (mmin (ri w 16 v3) ((((ri w 25 v3) - (ri w 28 v3)) - (ri w 29 v3)) - (mmin (ri w 15 v3) (((ri w 25 v3) - (ri w 28 v3)) - (ri w 29 v3))))))) fun w_3 => (
  nw (wi w_3 28 v3 ((ri w_3 28 v3) + (mmin (ri w 15 v3) (((ri w 25 v3) - (ri w 28 v3)) - (ri w 29 v3))))) fun w_4 => (
  nw (wi w_4 29 v3 ((ri w_4 29 v3) + (mmin (ri w 16 v3) ((((ri w 25 v3) - (ri w 28 v3)) - (ri w 29 v3)) - (mmin (ri w 15 v3) (((ri w 25 v3) - (ri w 28 v3)) - (ri w 29 v3))))))) fun w_5 => (
  some w_5))))) else none

def fX1_leadLine_122 (k2 : Nat → Int32 → Wd → Option Wd) (v2 : Nat) (v3 : Int32) (v4 : Int32) (v5 : Int32) (s1 : Int32) (s2 : Int32) (w : Wd) : Option Wd :=
  if inb s1 100 = true then (
  nw (wi w 94 s1 s2) fun w_2 => (
  if inb v4 100 = true then (
  nw (wi w_2 95 v4 (((50 : Int32) + ((40 : Int32) * v5)) + ((60 : Int32) * (w_2.1 v2 0)))) fun w_4 => (
  k2 v2 (v3 + (1 : Int32)) w_4)) else none)) else none
def fX1_leadLine_87 (k2 : Nat → Int32 → Wd → Option Wd) (v2 : Nat) (v3 : Int32) (v4 : Int32) (v5 : Int32) (v6 : Int32) (s1 : Int32) (s2 : Int32) (w : Wd) : Option Wd :=
  if inb s1 100 = true then (
  nw (wi w 93 s1 s2) fun w_2 => (
  if v6 = 0 then (
    fX1_leadLine_122 k2 v2 v3 v4 v5 v4 (((30 : Int32) * (w_2.1 v2 0)) * (w_2.1 v2 0)) w_2)
  else (
    fX1_leadLine_122 k2 v2 v3 v4 v5 v4 (((20 : Int32) * v5) * v5) w_2))) else none
def fX1_leadLine_56 (k2 : Nat → Int32 → Wd → Option Wd) (v2 : Nat) (v3 : Int32) (v4 : Int32) (v5 : Int32) (s0 : Int32) (w : Wd) : Option Wd :=
  if s0 = 0 then (
    if inb (v3 + (1 : Int32)) 19 = true then (
    fX1_leadLine_87 k2 v2 v3 v4 v5 s0 v4 (ri w (v2 + 1) (v3 + (1 : Int32))) w) else none)
  else (
    if inb v4 100 = true then (
    fX1_leadLine_87 k2 v2 v3 v4 v5 s0 v4 (ri w 9 v4) w) else none)
def fX1_leadLine_2 : Nat → Nat → Int32 → Wd → Option Wd
  | 0, _, _, _ => none
  | n + 1, v2, v3, w =>
  if v3 < (w.1 v2 3) then (
    if v3 < (19 : Int32) then (
      if inb v3 19 = true then (
      if inb (ri w (v2 + 1) v3) 100 = true then (
      if (v3 + (1 : Int32)) < (w.1 v2 3) then (
        if (v3 + (1 : Int32)) < (19 : Int32) then (
          fX1_leadLine_56 (fX1_leadLine_2 n) v2 v3 (ri w (v2 + 1) v3) (ri w 11 (ri w (v2 + 1) v3)) (0 : Int32) w)
        else (
          fX1_leadLine_56 (fX1_leadLine_2 n) v2 v3 (ri w (v2 + 1) v3) (ri w 11 (ri w (v2 + 1) v3)) (1 : Int32) w))
      else (
        fX1_leadLine_56 (fX1_leadLine_2 n) v2 v3 (ri w (v2 + 1) v3) (ri w 11 (ri w (v2 + 1) v3)) (1 : Int32) w)) else none) else none)
    else (
      some w))
  else (
    some w)
def fX1_leadLine (v2 : Nat) (w : Wd) : Option Wd :=
  fX1_leadLine_2 FU v2 (0 : Int32) w

def fX1_lead_82 : Nat → Int32 → Int32 → Wd → Option Wd
  | 0, _, _, _ => none
  | n + 1, v2, v4, w =>
  if v4 < 0 then (
    some w)
  else (
    if ((v2 >>> (v4 &&& 31)) &&& (1 : Int32)) = (1 : Int32) then (
      if inb v4 8 = true then (
      (fX1_leadLine (36 + 7 * (v4).toNatClampNeg) w).bind fun v_4 => (
      (fX1_lead_82 n) v2 (v4 + (-1 : Int32)) v_4)) else none)
    else (
      (fX1_lead_82 n) v2 (v4 + (-1 : Int32)) w))
def fX1_lead_8 : Nat → Int32 → Int32 → Wd → Option Wd
  | 0, _, _, _ => none
  | n + 1, v2, v4, w =>
  if v4 < (100 : Int32) then (
    if inb v4 100 = true then (
    nw (wi w 93 v4 (ri w 9 v4)) fun w_3 => (
    nw (wi w_3 94 v4 (((20 : Int32) * (ri w 11 v4)) * (ri w 11 v4))) fun w_4 => (
    nw (wi w_4 95 v4 ((50 : Int32) + ((40 : Int32) * (ri w 11 v4)))) fun w_5 => (
    (fX1_lead_8 n) v2 (v4 + (1 : Int32)) w_5)))) else none)
  else (
    fX1_lead_82 FU v2 ((w.1 1 5) - (1 : Int32)) w)
def fX1_lead (v2 : Int32) (w : Wd) : Option Wd :=
  fX1_lead_8 FU v2 (0 : Int32) w

def fX10_arrive (v2 : Int32) (v3 : Int32) (v4 : Int32) (w : Wd) : Option Wd :=
  if inb v2 100 = true then (
  if (ri w 7 v2) = (1 : Int32) then (
    nw (si w 14 7 ((w.1 14 7) + v3)) fun w_3 => (
    nw (si w_3 14 8 ((w_3.1 14 8) + v4)) fun w_4 => (
    some w_4)))
  else (
    nw (wi w 15 v2 ((ri w 15 v2) + v3)) fun w_5 => (
    nw (wi w_5 16 v2 ((ri w_5 16 v2) + v4)) fun w_6 => (
    some w_6)))) else none

def fX11_isCell (v0 : Int32) (w : Wd) : Option Bool :=
  (fX11_within v0 (0 : Int32) (99 : Int32) w).bind fun v_1 => (
  some v_1)

def fX1_letOn_151 : Nat → Int32 → Wd → Option Wd
  | 0, _, _ => none
  | n + 1, v3, w =>
  if v3 < (100 : Int32) then (
    if inb v3 100 = true then (
    (fX10_arrive v3 (ri w 96 v3) (ri w 97 v3) w).bind fun v_3 => (
    (fX1_letOn_151 n) (v3 + (1 : Int32)) v_3)) else none)
  else (
    some w)
def fX1_letOn_23 : Nat → Int32 → Wd → Option Wd
  | 0, _, _ => none
  | n + 1, v3, w =>
  if v3 < (100 : Int32) then (
    if inb v3 100 = true then (
    if (ri w 20 v3) = 0 then (
      (fX11_isCell (ri w 93 v3) w).bind fun v_4 => (
      if v_4 = true then (
        nw (wi w 15 v3 ((ri w 15 v3) - (mmin (ri w 15 v3) (ri w 94 v3)))) fun w_6 => (
        nw (wi w_6 16 v3 ((ri w_6 16 v3) - (mmin (ri w 16 v3) ((ri w 94 v3) - (mmin (ri w 15 v3) (ri w 94 v3)))))) fun w_7 => (
        if inb (ri w 93 v3) 100 = true then (
        nw (wi w_7 96 (ri w 93 v3) ((ri w_7 96 (ri w 93 v3)) + (mmin (ri w 15 v3) (ri w 94 v3)))) fun w_9 => (
        nw (wi w_9 97 (ri w 93 v3) ((ri w_9 97 (ri w 93 v3)) + (mmin (ri w 16 v3) ((ri w 94 v3) - (mmin (ri w 15 v3) (ri w 94 v3)))))) fun w_10 => (
        (fX1_letOn_23 n) (v3 + (1 : Int32)) w_10))) else none)))
      else (
        (fX1_letOn_23 n) (v3 + (1 : Int32)) w)))
    else (
      (fX1_letOn_23 n) (v3 + (1 : Int32)) w)) else none)
  else (
    fX1_letOn_151 FU (0 : Int32) w)
def fX1_letOn (w : Wd) : Option Wd :=
  nw (flI w 96 100 (0 : Int32)) fun w_1 => (
  nw (flI w_1 97 100 (0 : Int32)) fun w_2 => (
  fX1_letOn_23 FU (0 : Int32) w_2))

def fX1_liftWater_13 : Nat → Int32 → Wd → Option Wd
  | 0, _, _ => none
  | n + 1, v4, w =>
  if v4 < (100 : Int32) then (
    if inb v4 100 = true then (
    if (ri w 20 v4) = (1 : Int32) then (
      if (ri w 24 v4) = (1 : Int32) then (
        (fX1_liftWater_13 n) (v4 + (1 : Int32)) w)
      else (
        (fX11_isCell (ri w 21 v4) w).bind fun v_5 => (
        if v_5 = true then (
          nw (wi w 15 v4 ((ri w 15 v4) - (mmin (ri w 15 v4) (mmin (ri w 22 v4) ((100 : Int32) * (ri w 23 v4)))))) fun w_7 => (
          nw (wi w_7 16 v4 ((ri w_7 16 v4) - (mmin (ri w 16 v4) ((mmin (ri w 22 v4) ((100 : Int32) * (ri w 23 v4))) - (mmin (ri w 15 v4) (mmin (ri w 22 v4) ((100 : Int32) * (ri w 23 v4)))))))) fun w_8 => (
          (fX10_arrive (ri w_8 21 v4) (mmin (ri w 15 v4) (mmin (ri w 22 v4) ((100 : Int32) * (ri w 23 v4)))) (mmin (ri w 16 v4) ((mmin (ri w 22 v4) ((100 : Int32) * (ri w 23 v4))) - (mmin (ri w 15 v4) (mmin (ri w 22 v4) ((100 : Int32) * (ri w 23 v4)))))) w_8).bind fun v_9 => (
          nw (wi v_9 23 v4 ((ri v_9 23 v4) - ((((mmin (ri w 15 v4) (mmin (ri w 22 v4) ((100 : Int32) * (ri w 23 v4)))) + (mmin (ri w 16 v4) ((mmin (ri w 22 v4) ((100 : Int32) * (ri w 23 v4))) - (mmin (ri w 15 v4) (mmin (ri w 22 v4) ((100 : Int32) * (ri w 23 v4))))))) + (99 : Int32)) / (100 : Int32)))) fun w_10 => (
          (fX1_liftWater_13 n) (v4 + (1 : Int32)) w_10)))))
        else (
          (fX1_liftWater_13 n) (v4 + (1 : Int32)) w))))
    else (
      (fX1_liftWater_13 n) (v4 + (1 : Int32)) w)) else none)
  else (
    some w)
def fX1_liftWater (w : Wd) : Option Wd :=
  fX1_liftWater_13 FU (0 : Int32) w

def fX1_makeWater_7 : Nat → Int32 → Wd → Option Wd
  | 0, _, _ => none
  | n + 1, v3, w =>
  if v3 < (100 : Int32) then (
    if inb v3 100 = true then (
    if (ri w 7 v3) = (1 : Int32) then (
      (fX1_makeWater_7 n) (v3 + (1 : Int32)) w)
    else (
      nw (wi w 15 v3 ((ri w 15 v3) + ((ri w 5 v3) / (100 : Int32)))) fun w_4 => (
      nw (wi w_4 16 v3 ((ri w_4 16 v3) + (w_4.1 14 4))) fun w_5 => (
      nw (si w_5 14 5 ((w_5.1 14 5) + ((ri w 5 v3) / (100 : Int32)))) fun w_6 => (
      nw (si w_6 14 6 ((w_6.1 14 6) + (w_6.1 14 4))) fun w_7 => (
      (fX1_makeWater_7 n) (v3 + (1 : Int32)) w_7)))))) else none)
  else (
    some w)
def fX1_makeWater (w : Wd) : Option Wd :=
  fX1_makeWater_7 FU (0 : Int32) w

def fX9_bringsBack_2 (w : Wd) : Nat → Int32 → Int32 → Option Bool
  | 0, _, _ => none
  | n + 1, v1, v2 =>
  if (12 : Int32) < v2 then (
    some false)
  else (
    (fX9_levelAt v1 w).bind fun v_2 => (
    (fX9_levelAt (v1 + v2) w).bind fun v_3 => (
    if (v_2 - v_3) < 0 then (
      some true)
    else (
      (fX9_bringsBack_2 w n) v1 (v2 + (1 : Int32))))))
def fX9_bringsBack (v1 : Int32) (w : Wd) : Option Bool :=
  fX9_bringsBack_2 w FU v1 (1 : Int32)

def fX1_openGates_19 : Nat → Int32 → Int32 → Wd → Option Wd
  | 0, _, _, _ => none
  | n + 1, v5, v6, w =>
  if v6 < (100 : Int32) then (
    if inb v6 100 = true then (
    if (ri w 20 v6) = (2 : Int32) then (
      (fX1_fillTank v6 w).bind fun v_4 => (
      if v5 < (ri v_4 27 v6) then (
        (fX4_allow (2 : Int32) v6 v_4).bind fun v_6 => (
        if v_6.1 = true then (
          nw (wi v_6.2 28 v6 ((ri v_6.2 28 v6) - (mmin (ri v_6.2 28 v6) (ri v_6.2 26 v6)))) fun w_8 => (
          nw (wi w_8 29 v6 ((ri w_8 29 v6) - (mmin (ri v_6.2 29 v6) ((ri v_6.2 26 v6) - (mmin (ri v_6.2 28 v6) (ri v_6.2 26 v6)))))) fun w_9 => (
          nw (si w_9 14 8 ((w_9.1 14 8) + (mmin (ri v_6.2 29 v6) ((ri v_6.2 26 v6) - (mmin (ri v_6.2 28 v6) (ri v_6.2 26 v6)))))) fun w_10 => (
          (fX9_bringsBack (w_10.1 1 6) w_10).bind fun v_11 => (
          if v_11 = true then (
            nw (si w_10 14 10 ((w_10.1 14 10) + (mmin (ri v_6.2 28 v6) (ri v_6.2 26 v6)))) fun w_13 => (
            (fX1_openGates_19 n) v5 (v6 + (1 : Int32)) w_13))
          else (
            nw (si w_10 14 9 ((w_10.1 14 9) + (mmin (ri v_6.2 28 v6) (ri v_6.2 26 v6)))) fun w_14 => (
            (fX1_openGates_19 n) v5 (v6 + (1 : Int32)) w_14)))))))
        else (
          (fX1_openGates_19 n) v5 (v6 + (1 : Int32)) v_6.2)))
      else (
        (fX1_openGates_19 n) v5 (v6 + (1 : Int32)) v_4)))
    else (
      (fX1_openGates_19 n) v5 (v6 + (1 : Int32)) w)) else none)
  else (
    some w)
def fX1_openGates (w : Wd) : Option Wd :=
  (fX9_levelAt (w.1 1 6) w).bind fun v_1 => (
  fX1_openGates_19 FU v_1 (0 : Int32) w)

def fX1_passHour (w : Wd) : Option Wd :=
  (fX1_makeWater w).bind fun v_1 => (
  (fX1_letOn v_1).bind fun v_2 => (
  (fX1_liftWater v_2).bind fun v_3 => (
  (fX1_openGates v_3).bind fun v_4 => (
  (fX1_fillCellars v_4).bind fun v_5 => (
  some v_5)))))

def fX1_traceIsFouled_108 (k8 : Int32 → Int32 → Int32 → Wd → Option (Bool × Wd)) (v3 : Int32) (v4 : Int32) (v5 : Int32) (s0 : Int32) (w : Wd) : Option (Bool × Wd) :=
  if inb v3 100 = true then (
  if (ri w 20 v3) = (2 : Int32) then (
    k8 v3 v4 (1 : Int32) w)
  else (
    (fX11_isCell s0 w).bind fun v_3 => (
    if v_3 = true then (
      k8 s0 v4 v5 w)
    else (
      k8 v3 v4 (1 : Int32) w)))) else none
def fX1_traceIsFouled_154 : Nat → Int32 → Int32 → Wd → Option (Bool × Wd)
  | 0, _, _, _ => none
  | n + 1, v4, v6, w =>
  if v6 < v4 then (
    if inb v6 100 = true then (
    if inb (ri w 99 v6) 100 = true then (
    nw (wi w 98 (ri w 99 v6) (2 : Int32)) fun w_4 => (
    (fX1_traceIsFouled_154 n) v4 (v6 + (1 : Int32)) w_4)) else none) else none)
  else (
    some (true, w))
def fX1_traceIsFouled_143 (v4 : Int32) (v5 : Int32) (w : Wd) : Option (Bool × Wd) :=
  if v5 = (2 : Int32) then (
    fX1_traceIsFouled_154 FU v4 (0 : Int32) w)
  else (
    some (false, w))
def fX1_traceIsFouled_8 : Nat → Int32 → Int32 → Int32 → Wd → Option (Bool × Wd)
  | 0, _, _, _, _ => none
  | n + 1, v3, v4, v5, w =>
  if v5 = 0 then (
    if v4 < (100 : Int32) then (
      if inb v3 100 = true then (
      if (ri w 98 v3) = 0 then (
        if (ri w 7 v3) = (1 : Int32) then (
          (fX1_traceIsFouled_8 n) v3 v4 (2 : Int32) w)
        else (
          nw (wi w 98 v3 (1 : Int32)) fun w_6 => (
          if inb v4 100 = true then (
          nw (wi w_6 99 v4 v3) fun w_8 => (
          if (ri w_8 20 v3) = (1 : Int32) then (
            fX1_traceIsFouled_108 (fX1_traceIsFouled_8 n) v3 (v4 + (1 : Int32)) v5 (ri w_8 21 v3) w_8)
          else (
            fX1_traceIsFouled_108 (fX1_traceIsFouled_8 n) v3 (v4 + (1 : Int32)) v5 (ri w_8 93 v3) w_8))) else none)))
      else (
        (fX1_traceIsFouled_8 n) v3 v4 (ri w 98 v3) w)) else none)
    else (
      fX1_traceIsFouled_143 v4 v5 w))
  else (
    fX1_traceIsFouled_143 v4 v5 w)
def fX1_traceIsFouled (v2 : Int32) (w : Wd) : Option (Bool × Wd) :=
  fX1_traceIsFouled_8 FU v2 (0 : Int32) (0 : Int32) w

def fX1_peopleFouled_19 : Nat → Int32 → Int32 → Wd → Option (Int32 × Wd)
  | 0, _, _, _ => none
  | n + 1, v3, v4, w =>
  if v4 < (100 : Int32) then (
    if inb v4 100 = true then (
    if (ri w 5 v4) = 0 then (
      (fX1_peopleFouled_19 n) v3 (v4 + (1 : Int32)) w)
    else (
      if (ri w 7 v4) = (1 : Int32) then (
        (fX1_peopleFouled_19 n) v3 (v4 + (1 : Int32)) w)
      else (
        (fX1_traceIsFouled v4 w).bind fun v_5 => (
        if v_5.1 = true then (
          (fX1_peopleFouled_19 n) (v3 + (ri v_5.2 5 v4)) (v4 + (1 : Int32)) v_5.2)
        else (
          (fX1_peopleFouled_19 n) v3 (v4 + (1 : Int32)) v_5.2))))) else none)
  else (
    some (v3, w))
def fX1_peopleFouled (v2 : Int32) (w : Wd) : Option (Int32 × Wd) :=
  (fX1_lead v2 w).bind fun v_1 => (
  nw (flI v_1 98 100 (0 : Int32)) fun w_2 => (
  fX1_peopleFouled_19 FU (0 : Int32) (0 : Int32) w_2))

def fX2_peopleOf_4 (w : Wd) : Nat → Int32 → Int32 → Int32 → Option Int32
  | 0, _, _, _ => none
  | n + 1, v1, v2, v3 =>
  if v3 < (10 : Int32) then (
    if inb (((10 : Int32) * v1) + v3) 100 = true then (
    (fX2_peopleOf_4 w n) v1 (v2 + (ri w 5 (((10 : Int32) * v1) + v3))) (v3 + (1 : Int32))) else none)
  else (
    some v2)
def fX2_peopleOf (v1 : Int32) (w : Wd) : Option Int32 :=
  fX2_peopleOf_4 w FU v1 (0 : Int32) (0 : Int32)

def fX2_rowToSet (v1 : Int32) (w : Wd) : Option (Option Nat) :=
  if v1 = (0 : Int32) then (
    some (some 3))
  else if v1 = (1 : Int32) then (
    some (some 4))
  else if v1 = (2 : Int32) then (
    some (some 5))
  else if v1 = (3 : Int32) then (
    some (some 6))
  else if v1 = (4 : Int32) then (
    some (some 7))
  else if v1 = (5 : Int32) then (
    some (some 8))
  else (
  some none)

def fX2_told (v1 : Int32) (v2 : Int32) (w : Wd) : Option Int32 :=
  (fX2_rowToSet v2 w).bind fun v_1 => (
  match v_1 with
  | none => (
    if v2 = (6 : Int32) then (
      if inb v1 100 = true then (
      some (ri w 9 v1)) else none)
    else (
      if v2 = (7 : Int32) then (
        if inb v1 100 = true then (
        some (ri w 10 v1)) else none)
      else (
        if inb v1 100 = true then (
        some (ri w 11 v1)) else none)))
  | some qa => (
    if inb v1 100 = true then (
    some (ri w qa v1)) else none))

def fX3_elsewhere_4 (w : Wd) : Nat → Int32 → Int32 → Int32 → Option Int32
  | 0, _, _, _ => none
  | n + 1, v1, v2, v3 =>
  if v3 < (100 : Int32) then (
    if v3 = v1 then (
      (fX3_elsewhere_4 w n) v1 v2 (v3 + (1 : Int32)))
    else (
      if inb v3 100 = true then (
      if (ri w 20 v3) = 0 then (
        (fX3_elsewhere_4 w n) v1 v2 (v3 + (1 : Int32)))
      else (
        (fX3_elsewhere_4 w n) v1 (v2 + (1 : Int32)) (v3 + (1 : Int32)))) else none))
  else (
    some v2)
def fX3_elsewhere (v1 : Int32) (w : Wd) : Option Int32 :=
  fX3_elsewhere_4 w FU v1 (0 : Int32) (0 : Int32)

def fX4_enact (v1 : Int32) (v2 : Int32) (w : Wd) : Option (Int32 × Wd) :=
  if (w.1 106 0) < (20 : Int32) then (
    if inb (w.1 106 0) 20 = true then (
    nw (wi w 107 (w.1 106 0) v1) fun w_3 => (
    if inb (w_3.1 106 0) 20 = true then (
    nw (wi w_3 108 (w_3.1 106 0) v2) fun w_5 => (
    if inb (w_5.1 106 0) 20 = true then (
    nw (wi w_5 109 (w_5.1 106 0) (mmin (w_5.1 106 8) (60 : Int32))) fun w_7 => (
    if inb (w_7.1 106 0) 20 = true then (
    if cpok (0 : Int32) (0 : Int32) (ri w_7 109 (w_7.1 106 0)) 100 60 = true then (
    nw (cpI w_7 111 (0 : Int32) (114 + ((w_7.1 106 0)).toNatClampNeg) (0 : Int32) (ri w_7 109 (w_7.1 106 0))) fun w_9 => (
    nw (si w_9 106 0 ((w_9.1 106 0) + (1 : Int32))) fun w_10 => (
    some (((w_10.1 106 0) - (1 : Int32)), w_10)))) else none) else none)) else none)) else none)) else none)
  else (
    some ((-2 : Int32), w))

def fX4_firstFault_77 (w : Wd) : Option (Int32 × Wd) :=
  some ((w.1 106 11), w)
def fX4_firstFault_15 : Nat → Nat → Int32 → Wd → Option (Int32 × Wd)
  | 0, _, _, _ => none
  | n + 1, v1, v2, w =>
  if v2 < (w.1 106 9) then (
    if inb v2 100 = true then (
    nw (wi w 113 v2 ((rl w (v1 + 1) v2).toInt32)) fun w_3 => (
    (fX4_firstFault_15 n) v1 (v2 + (1 : Int32)) w_3)) else none)
  else (
    nw (si w 106 8 (0 : Int32)) fun w_4 => (
    nw (si w_4 106 10 (0 : Int32)) fun w_5 => (
    nw (si w_5 106 11 (-1 : Int32)) fun w_6 => (
    (kRO (0 : Int32) w_6).bind fun v_7 => (
    if (v_7.1 106 10) < (v_7.1 106 9) then (
      (fX4_fail v_7).bind fun v_9 => (
      fX4_firstFault_77 v_9))
    else (
      fX4_firstFault_77 v_7))))))
def fX4_firstFault (v1 : Nat) (w : Wd) : Option (Int32 × Wd) :=
  nw (si w 106 9 (mmin (w.1 v1 1) (100 : Int32))) fun w_1 => (
  fX4_firstFault_15 FU v1 (0 : Int32) w_1)

def fX5_firstBearing_2 (w : Wd) : Nat → Nat → Int32 → Int32 → Int32 → Option Int32
  | 0, _, _, _, _ => none
  | n + 1, v0, v1, v2, v3 =>
  if (50 : Int32) < v3 then (
    some (-1 : Int32))
  else (
    (fX5_strength v0 v1 v3 w).bind fun v_2 => (
    if v_2 < v2 then (
      (fX5_firstBearing_2 w n) v0 v1 v2 (v3 + (1 : Int32)))
    else (
      if inb v1 19 = true then (
      some ((ri w (v0 + 4) v1) + v3)) else none)))
def fX5_firstBearing (v0 : Nat) (v1 : Int32) (v2 : Int32) (w : Wd) : Option Int32 :=
  fX5_firstBearing_2 w FU v0 v1 v2 (0 : Int32)

def fX5_start (v0 : Nat) (v2 : Int32) (v3 : Int32) (w : Wd) : Option Wd :=
  nw (si w v0 0 v2) fun w_1 => (
  nw (si w_1 v0 1 v3) fun w_2 => (
  nw (si w_2 v0 2 (0 : Int32)) fun w_3 => (
  nw (si w_3 v0 3 (w_3.1 102 0)) fun w_4 => (
  nw (si w_4 v0 4 (w_4.1 102 0)) fun w_5 => (
  (fX11_copyRow 103 19 (v0 + 1) 19 w_5).bind fun v_6 => (
  (fX11_copyRow 104 19 (v0 + 2) 19 v_6).bind fun v_7 => (
  nw (flI v_7 (v0 + 3) 19 (0 : Int32)) fun w_8 => (
  nw (flI w_8 (v0 + 4) 19 (-9 : Int32)) fun w_9 => (
  nw (flI w_9 (v0 + 5) 19 (0 : Int32)) fun w_10 => (
  nw (flI w_10 (v0 + 6) 19 (0 : Int32)) fun w_11 => (
  some w_11)))))))))))

def fX6_latest_7 (w : Wd) : Nat → Int32 → Int32 → Int32 → Option Int32
  | 0, _, _, _ => none
  | n + 1, v1, v2, v3 =>
  if v3 < 0 then (
    some (-1 : Int32))
  else (
    if inb v3 200 = true then (
    if (ri w 31 v3) = v1 then (
      if v2 < (ri w 34 v3) then (
        (fX6_latest_7 w n) v1 v2 (v3 + (-1 : Int32)))
      else (
        some v3))
    else (
      (fX6_latest_7 w n) v1 v2 (v3 + (-1 : Int32)))) else none)
def fX6_latest (v1 : Int32) (v2 : Int32) (w : Wd) : Option Int32 :=
  fX6_latest_7 w FU v1 v2 ((w.1 30 0) - (1 : Int32))

def fX6_note (v1 : Int32) (v2 : Int32) (v3 : Int32) (v4 : Int32) (w : Wd) : Option Wd :=
  if (w.1 30 0) < (200 : Int32) then (
    if inb (w.1 30 0) 200 = true then (
    nw (wi w 31 (w.1 30 0) v1) fun w_3 => (
    if inb (w_3.1 30 0) 200 = true then (
    nw (wi w_3 32 (w_3.1 30 0) v2) fun w_5 => (
    if inb (w_5.1 30 0) 200 = true then (
    nw (wi w_5 33 (w_5.1 30 0) v3) fun w_7 => (
    if inb (w_7.1 30 0) 200 = true then (
    nw (wi w_7 34 (w_7.1 30 0) v4) fun w_9 => (
    nw (si w_9 30 0 ((w_9.1 30 0) + (1 : Int32))) fun w_10 => (
    some w_10))) else none)) else none)) else none)) else none)
  else (
    some w)

def fX7_nextCell_5 (w : Wd) : Nat → Int32 → Int32 → Int32 → Int32 → Option Int32
  | 0, _, _, _, _ => none
  | n + 1, v1, v2, v3, v4 =>
  if v4 < (4 : Int32) then (
    (fX11_beside v1 v4 w).bind fun v_2 => (
    if v_2 = (-1 : Int32) then (
      (fX7_nextCell_5 w n) v1 v2 v3 (v4 + (1 : Int32)))
    else (
      (fX11_near v_2 v2 w).bind fun v_4 => (
      (fX11_near v1 v2 w).bind fun v_5 => (
      if v_4 < v_5 then (
        if v3 = v1 then (
          (fX7_nextCell_5 w n) v1 v2 v_2 (v4 + (1 : Int32)))
        else (
          if inb v_2 100 = true then (
          if inb v3 100 = true then (
          if (ri w 105 v_2) < (ri w 105 v3) then (
            (fX7_nextCell_5 w n) v1 v2 v_2 (v4 + (1 : Int32)))
          else (
            (fX7_nextCell_5 w n) v1 v2 v3 (v4 + (1 : Int32)))) else none) else none))
      else (
        (fX7_nextCell_5 w n) v1 v2 v3 (v4 + (1 : Int32))))))))
  else (
    some v3)
def fX7_nextCell (v1 : Int32) (v2 : Int32) (w : Wd) : Option Int32 :=
  fX7_nextCell_5 w FU v1 v2 v1 (0 : Int32)

def fX7_follow_17 : Nat → Int32 → Int32 → Int32 → Int32 → Int32 → Wd → Option Wd
  | 0, _, _, _, _, _, _ => none
  | n + 1, v2, v3, v4, v5, v6, w =>
  if v6 < (w.1 102 0) then (
    if v6 < (19 : Int32) then (
      if inb v6 19 = true then (
      nw (wi w 103 v6 v5) fun w_4 => (
      nw (wi w_4 104 v6 (v3 - (v4 * v6))) fun w_5 => (
      (fX7_nextCell v5 v2 w_5).bind fun v_6 => (
      (fX7_follow_17 n) v2 v3 v4 v_6 (v6 + (1 : Int32)) w_5)))) else none)
    else (
      some w))
  else (
    some w)
def fX7_follow (v1 : Int32) (v2 : Int32) (v3 : Int32) (v4 : Int32) (w : Wd) : Option Wd :=
  (fX11_near v1 v2 w).bind fun v_1 => (
  nw (si w 102 0 (v_1 + (1 : Int32))) fun w_2 => (
  fX7_follow_17 FU v2 v3 v4 v1 (0 : Int32) w_2))

def fX7_leastDig_214 (k73 : Int32 → Int32 → Int32 → Int32 → Int32 → Int32 → Int32 → Int32 → Int32 → Wd → Option (Int32 × Wd)) (k82 : Int32 → Int32 → Int32 → Int32 → Int32 → Int32 → Int32 → Int32 → Int32 → Int32 → Wd → Option (Int32 × Wd)) (v2 : Int32) (v3 : Int32) (v4 : Int32) (v5 : Int32) (v6 : Int32) (v7 : Int32) (v8 : Int32) (v9 : Int32) (v10 : Int32) (v11 : Int32) (v12 : Int32) (v13 : Int32) (w : Wd) : Option (Int32 × Wd) :=
  if v13 < (1000000 : Int32) then (
    (fX2_digAt v12 (v4 - (v5 * (v11 + v10))) w).bind fun v_2 => (
    if inb v12 100 = true then (
    nw (wi w 105 v12 (v13 + v_2)) fun w_4 => (
    k82 v2 v3 v4 v5 v6 v7 v8 v9 v10 (v11 + (-1 : Int32)) w_4)) else none))
  else (
    k82 v2 v3 v4 v5 v6 v7 v8 v9 v10 (v11 + (-1 : Int32)) w)
def fX7_leastDig_179 (k73 : Int32 → Int32 → Int32 → Int32 → Int32 → Int32 → Int32 → Int32 → Int32 → Wd → Option (Int32 × Wd)) (k82 : Int32 → Int32 → Int32 → Int32 → Int32 → Int32 → Int32 → Int32 → Int32 → Int32 → Wd → Option (Int32 × Wd)) (v2 : Int32) (v3 : Int32) (v4 : Int32) (v5 : Int32) (v6 : Int32) (v7 : Int32) (v8 : Int32) (v9 : Int32) (v10 : Int32) (v11 : Int32) (v12 : Int32) (v13 : Int32) (w : Wd) : Option (Int32 × Wd) :=
  if v10 < v7 then (
    (fX11_isCell (v12 + v9) w).bind fun v_2 => (
    if v_2 = true then (
      if inb (v12 + v9) 100 = true then (
      fX7_leastDig_214 k73 k82 v2 v3 v4 v5 v6 v7 v8 v9 v10 v11 v12 (mmin v13 (ri w 105 (v12 + v9))) w) else none)
    else (
      fX7_leastDig_214 k73 k82 v2 v3 v4 v5 v6 v7 v8 v9 v10 v11 v12 v13 w)))
  else (
    fX7_leastDig_214 k73 k82 v2 v3 v4 v5 v6 v7 v8 v9 v10 v11 v12 v13 w)
def fX7_leastDig_142 (k73 : Int32 → Int32 → Int32 → Int32 → Int32 → Int32 → Int32 → Int32 → Int32 → Wd → Option (Int32 × Wd)) (k82 : Int32 → Int32 → Int32 → Int32 → Int32 → Int32 → Int32 → Int32 → Int32 → Int32 → Wd → Option (Int32 × Wd)) (v2 : Int32) (v3 : Int32) (v4 : Int32) (v5 : Int32) (v6 : Int32) (v7 : Int32) (v8 : Int32) (v9 : Int32) (v10 : Int32) (v11 : Int32) (v12 : Int32) (s0 : Int32) (w : Wd) : Option (Int32 × Wd) :=
  if v11 < v6 then (
    (fX11_isCell (v12 + v8) w).bind fun v_2 => (
    if v_2 = true then (
      if inb (v12 + v8) 100 = true then (
      fX7_leastDig_179 k73 k82 v2 v3 v4 v5 v6 v7 v8 v9 v10 v11 v12 (mmin s0 (ri w 105 (v12 + v8))) w) else none)
    else (
      fX7_leastDig_179 k73 k82 v2 v3 v4 v5 v6 v7 v8 v9 v10 v11 v12 s0 w)))
  else (
    fX7_leastDig_179 k73 k82 v2 v3 v4 v5 v6 v7 v8 v9 v10 v11 v12 s0 w)
def fX7_leastDig_130 (k73 : Int32 → Int32 → Int32 → Int32 → Int32 → Int32 → Int32 → Int32 → Int32 → Wd → Option (Int32 × Wd)) (k82 : Int32 → Int32 → Int32 → Int32 → Int32 → Int32 → Int32 → Int32 → Int32 → Int32 → Wd → Option (Int32 × Wd)) (v2 : Int32) (v3 : Int32) (v4 : Int32) (v5 : Int32) (v6 : Int32) (v7 : Int32) (v8 : Int32) (v9 : Int32) (v10 : Int32) (v11 : Int32) (v12 : Int32) (w : Wd) : Option (Int32 × Wd) :=
  if v12 = v3 then (
    fX7_leastDig_142 k73 k82 v2 v3 v4 v5 v6 v7 v8 v9 v10 v11 v12 (0 : Int32) w)
  else (
    fX7_leastDig_142 k73 k82 v2 v3 v4 v5 v6 v7 v8 v9 v10 v11 v12 (1000000 : Int32) w)
def fX7_leastDig_82 (k73 : Int32 → Int32 → Int32 → Int32 → Int32 → Int32 → Int32 → Int32 → Int32 → Wd → Option (Int32 × Wd)) : Nat → Int32 → Int32 → Int32 → Int32 → Int32 → Int32 → Int32 → Int32 → Int32 → Int32 → Wd → Option (Int32 × Wd)
  | 0, _, _, _, _, _, _, _, _, _, _, _ => none
  | n + 1, v2, v3, v4, v5, v6, v7, v8, v9, v10, v11, w =>
  if v11 < 0 then (
    k73 v2 v3 v4 v5 v6 v7 v8 v9 (v10 + (-1 : Int32)) w)
  else (
    (fX11_isCell ((v2 + (v11 * v8)) + (v10 * v9)) w).bind fun v_2 => (
    if v_2 = true then (
      if ((v2 + (v11 * v8)) + (v10 * v9)) = v3 then (
        fX7_leastDig_130 k73 (fX7_leastDig_82 k73 n) v2 v3 v4 v5 v6 v7 v8 v9 v10 v11 ((v2 + (v11 * v8)) + (v10 * v9)) w)
      else (
        if inb ((v2 + (v11 * v8)) + (v10 * v9)) 100 = true then (
        if (ri w 7 ((v2 + (v11 * v8)) + (v10 * v9))) = (1 : Int32) then (
          (fX7_leastDig_82 k73 n) v2 v3 v4 v5 v6 v7 v8 v9 v10 (v11 + (-1 : Int32)) w)
        else (
          fX7_leastDig_130 k73 (fX7_leastDig_82 k73 n) v2 v3 v4 v5 v6 v7 v8 v9 v10 v11 ((v2 + (v11 * v8)) + (v10 * v9)) w)) else none))
    else (
      (fX7_leastDig_82 k73 n) v2 v3 v4 v5 v6 v7 v8 v9 v10 (v11 + (-1 : Int32)) w)))
def fX7_leastDig_73 : Nat → Int32 → Int32 → Int32 → Int32 → Int32 → Int32 → Int32 → Int32 → Int32 → Wd → Option (Int32 × Wd)
  | 0, _, _, _, _, _, _, _, _, _, _ => none
  | n + 1, v2, v3, v4, v5, v6, v7, v8, v9, v10, w =>
  if v10 < 0 then (
    if inb v2 100 = true then (
    some ((ri w 105 v2), w)) else none)
  else (
    fX7_leastDig_82 (fX7_leastDig_73 n) FU v2 v3 v4 v5 v6 v7 v8 v9 v10 v6 w)
def fX7_leastDig_58 (v2 : Int32) (v3 : Int32) (v4 : Int32) (v5 : Int32) (v6 : Int32) (v7 : Int32) (v8 : Int32) (s0 : Int32) (w : Wd) : Option (Int32 × Wd) :=
  nw (flI w 105 100 (1000000 : Int32)) fun w_1 => (
  fX7_leastDig_73 FU v2 v3 v4 v5 v6 v7 v8 s0 v7 w_1)
def fX7_leastDig_44 (v2 : Int32) (v3 : Int32) (v4 : Int32) (v5 : Int32) (v6 : Int32) (v7 : Int32) (s0 : Int32) (w : Wd) : Option (Int32 × Wd) :=
  if v2 < v3 then (
    fX7_leastDig_58 v2 v3 v4 v5 v6 v7 s0 (10 : Int32) w)
  else (
    fX7_leastDig_58 v2 v3 v4 v5 v6 v7 s0 (-10 : Int32) w)
def fX7_leastDig (v2 : Int32) (v3 : Int32) (v4 : Int32) (v5 : Int32) (w : Wd) : Option (Int32 × Wd) :=
  if (jrm v2 (10 : Int32)) < (jrm v3 (10 : Int32)) then (
    fX7_leastDig_44 v2 v3 v4 v5 (mabs ((jrm v3 (10 : Int32)) - (jrm v2 (10 : Int32)))) (mabs ((v3 / (10 : Int32)) - (v2 / (10 : Int32)))) (1 : Int32) w)
  else (
    fX7_leastDig_44 v2 v3 v4 v5 (mabs ((jrm v3 (10 : Int32)) - (jrm v2 (10 : Int32)))) (mabs ((v3 / (10 : Int32)) - (v2 / (10 : Int32)))) (-1 : Int32) w)

def fX8_holdsRow (v0 : Nat) (w : Wd) : Option Bool :=
  (fX11_within (w.1 v0 0) (1 : Int32) (5 : Int32) w).bind fun v_1 => (
  some v_1)

def fX8_narrowed (v0 : Nat) (v1 : Int64) (w : Wd) : Option Int64 :=
  if (w.1 v0 0) = (1 : Int32) then (
    some v1.toInt32.toInt8.toInt32.toInt64)
  else if (w.1 v0 0) = (2 : Int32) then (
    some v1.toInt32.toInt16.toInt32.toInt64)
  else if (w.1 v0 0) = (3 : Int32) then (
    some v1.toInt32.toInt64)
  else if (w.1 v0 0) = (4 : Int32) then (
    some v1)
  else (
  if v1 = (0 : Int64) then (
    some (0 : Int64))
  else (
    some (1 : Int64)))

def fX9_learn_15 : Nat → Nat → Int32 → Wd → Option Wd
  | 0, _, _, _ => none
  | n + 1, v1, v2, w =>
  if v2 < (w.1 100 0) then (
    if inb v2 100 = true then (
    if inb v2 60 = true then (
    nw (wi w 101 v2 ((rl w (v1 + 1) v2).toInt32)) fun w_4 => (
    (fX9_learn_15 n) v1 (v2 + (1 : Int32)) w_4)) else none) else none)
  else (
    some w)
def fX9_learn (v1 : Nat) (w : Wd) : Option Wd :=
  nw (si w 100 0 (mmin (w.1 v1 1) (60 : Int32))) fun w_1 => (
  fX9_learn_15 FU v1 (0 : Int32) w_1)

def fX10_foulCellars_4 (z : Nat) (w : Wd) : Nat → Int32 → Int32 → Option Int32
  | 0, _, _ => none
  | n + 1, v1, v2 =>
  if v2 < (100 : Int32) then (
    if inb v2 100 = true then (
    if 0 < (ri w (z + 17) v2) then (
      (fX10_foulCellars_4 z w n) (v1 + (1 : Int32)) (v2 + (1 : Int32)))
    else (
      (fX10_foulCellars_4 z w n) v1 (v2 + (1 : Int32)))) else none)
  else (
    some v1)
def fX10_foulCellars (z : Nat) (w : Wd) : Option Int32 :=
  fX10_foulCellars_4 z w FU (0 : Int32) (0 : Int32)

def fX11_isTape (v0 : Int32) (w : Wd) : Option Bool :=
  (fX11_within v0 (0 : Int32) (5 : Int32) w).bind fun v_1 => (
  some v_1)

def fX11_refuse (v1 : Int32) (w : Wd) : Option (Int32 × Wd) :=
  nw (si w 0 7 ((w.1 0 7) + (1 : Int32))) fun w_1 => (
  some (v1, w_1))

def fX11_back_46 (w : Wd) : Option (Int32 × Wd) :=
  (fX11_refuse (-12 : Int32) w).bind fun v_1 => (
  some (v_1.1, v_1.2))
def fX11_back (v1 : Int32) (w : Wd) : Option (Int32 × Wd) :=
  (fX11_isTape v1 w).bind fun v_1 => (
  if v_1 = true then (
    if inb v1 6 = true then (
    if (w.1 (135 + 2 * (v1).toNatClampNeg) 0) = 0 then (
      (fX11_refuse (-11 : Int32) w).bind fun v_5 => (
      some (v_5.1, v_5.2)))
    else (
      if (w.1 (135 + 2 * (v1).toNatClampNeg) 0) = (6 : Int32) then (
        if w.1 (135 + 2 * (v1).toNatClampNeg) 3 = 0 then (
          fX11_back_46 w)
        else (
          (fX0_become 0 (imZ (135 + 2 * (v1).toNatClampNeg)) w).bind fun v_8 => (
          some ((v_8.1 1 6), v_8))))
      else (
        fX11_back_46 w))) else none)
  else (
    some ((-1 : Int32), w)))

def fX11_isLine (v1 : Int32) (w : Wd) : Option Bool :=
  (fX11_within v1 (0 : Int32) ((w.1 1 5) - (1 : Int32)) w).bind fun v_1 => (
  some v_1)

def fX11_isOnLine (v1 : Int32) (v2 : Int32) (w : Wd) : Option Bool :=
  (fX11_isLine v1 w).bind fun v_1 => (
  if v_1 = true then (
    if inb v1 8 = true then (
    (fX11_within v2 (0 : Int32) ((w.1 (36 + 7 * (v1).toNatClampNeg) 3) - (1 : Int32)) w).bind fun v_4 => (
    if v_4 = true then (
      some true)
    else (
      some false))) else none)
  else (
    some false))

def fX11_bad_46 (v2 : Int32) (v4 : Nat) (s0 : Int32) (w : Wd) : Option (Int32 × Wd) :=
  if inb v2 19 = true then (
  if (ri w (v4 + 6) v2) = s0 then (
    some ((0 : Int32), w))
  else (
    nw (wi w (v4 + 6) v2 s0) fun w_3 => (
    some ((1 : Int32), w_3)))) else none
def fX11_bad (v1 : Int32) (v2 : Int32) (v3 : Int32) (w : Wd) : Option (Int32 × Wd) :=
  (fX11_isOnLine v1 v2 w).bind fun v_1 => (
  if v_1 = true then (
    if inb v1 8 = true then (
    if inb v2 19 = true then (
    if (ri w ((36 + 7 * (v1).toNatClampNeg) + 4) v2) = (-9 : Int32) then (
      some ((-4 : Int32), w))
    else (
      if v3 = 0 then (
        fX11_bad_46 v2 (36 + 7 * (v1).toNatClampNeg) (0 : Int32) w)
      else (
        fX11_bad_46 v2 (36 + 7 * (v1).toNatClampNeg) (1 : Int32) w))) else none) else none)
  else (
    some ((-1 : Int32), w)))

def fX11_bears (v1 : Int32) (v2 : Int32) (w : Wd) : Option Int32 :=
  (fX11_isOnLine v1 v2 w).bind fun v_1 => (
  if v_1 = true then (
    if inb v1 8 = true then (
    if inb v2 19 = true then (
    if (ri w ((36 + 7 * (v1).toNatClampNeg) + 4) v2) = (-9 : Int32) then (
      some (-4 : Int32))
    else (
      (fX0_depthOn (36 + 7 * (v1).toNatClampNeg) v2 w).bind fun v_6 => (
      (fX5_firstBearing (36 + 7 * (v1).toNatClampNeg) v2 v_6 w).bind fun v_7 => (
      if v_7 < 0 then (
        some (-3 : Int32))
      else (
        some v_7))))) else none) else none)
  else (
    some (-1 : Int32)))

def fX11_begin (w : Wd) : Option (Int32 × Wd) :=
  (fX0_restart w).bind fun v_1 => (
  nw (si v_1 100 0 (0 : Int32)) fun w_2 => (
  nw (si w_2 102 0 (0 : Int32)) fun w_3 => (
  nw (si w_3 106 0 (0 : Int32)) fun w_4 => (
  nw (si w_4 0 7 (0 : Int32)) fun w_5 => (
  some ((0 : Int32), w_5))))))

def fX11_findBest_173 (k69 : Int32 → Int32 → Wd → Option Wd) (v1 : Int32) (v2 : Int32) (v3 : Int32) (v4 : Int32) (w : Wd) : Option Wd :=
  nw (si w 0 8 v2) fun w_1 => (
  nw (si w_1 0 9 v4) fun w_2 => (
  nw (si w_2 0 10 v3) fun w_3 => (
  k69 v1 (v2 + (1 : Int32)) w_3)))
def fX11_findBest_87 (k69 : Int32 → Int32 → Wd → Option Wd) : Nat → Int32 → Int32 → Int32 → Int32 → Wd → Option Wd
  | 0, _, _, _, _, _ => none
  | n + 1, v1, v2, v3, v4, w =>
  if v4 < (w.1 1 5) then (
    if ((v2 >>> (v4 &&& 31)) &&& (1 : Int32)) = (1 : Int32) then (
      if inb v4 8 = true then (
      (fX11_findBest_87 k69 n) v1 v2 (v3 + (ri w 147 v4)) (v4 + (1 : Int32)) w) else none)
    else (
      (fX11_findBest_87 k69 n) v1 v2 v3 (v4 + (1 : Int32)) w))
  else (
    if v1 < v3 then (
      k69 v1 (v2 + (1 : Int32)) w)
    else (
      (fX1_peopleFouled v2 w).bind fun v_5 => (
      if v_5.1 < (v_5.2.1 0 9) then (
        fX11_findBest_173 k69 v1 v2 v3 v_5.1 v_5.2)
      else (
        if v_5.1 = (v_5.2.1 0 9) then (
          if v3 < (v_5.2.1 0 10) then (
            fX11_findBest_173 k69 v1 v2 v3 v_5.1 v_5.2)
          else (
            k69 v1 (v2 + (1 : Int32)) v_5.2))
        else (
          k69 v1 (v2 + (1 : Int32)) v_5.2)))))
def fX11_findBest_69 : Nat → Int32 → Int32 → Wd → Option Wd
  | 0, _, _, _ => none
  | n + 1, v1, v2, w =>
  if v2 < ((1 : Int32) <<< ((w.1 1 5) &&& 31)) then (
    fX11_findBest_87 (fX11_findBest_69 n) FU v1 v2 (0 : Int32) (0 : Int32) w)
  else (
    some w)
def fX11_findBest_2 : Nat → Int32 → Int32 → Wd → Option Wd
  | 0, _, _, _ => none
  | n + 1, v1, v2, w =>
  if v2 < (w.1 1 5) then (
    if inb v2 8 = true then (
    (fX0_costOf (36 + 7 * (v2).toNatClampNeg) w).bind fun v_3 => (
    nw (wi w 147 v2 v_3) fun w_4 => (
    (fX11_findBest_2 n) v1 (v2 + (1 : Int32)) w_4))) else none)
  else (
    nw (si w 0 8 (0 : Int32)) fun w_5 => (
    nw (si w_5 0 10 (0 : Int32)) fun w_6 => (
    (fX1_peopleFouled (0 : Int32) w_6).bind fun v_7 => (
    nw (si v_7.2 0 9 v_7.1) fun w_8 => (
    fX11_findBest_69 FU v1 (1 : Int32) w_8)))))
def fX11_findBest (v1 : Int32) (w : Wd) : Option Wd :=
  fX11_findBest_2 FU v1 (0 : Int32) w

def fX11_best (v1 : Int32) (v2 : Int32) (w : Wd) : Option (Int32 × Wd) :=
  (fX11_within v1 (0 : Int32) (9999999 : Int32) w).bind fun v_1 => (
  if v_1 = true then (
    (fX11_within v2 (0 : Int32) (2 : Int32) w).bind fun v_3 => (
    if v_3 = true then (
      (fX11_findBest v1 w).bind fun v_5 => (
      if v2 = 0 then (
        some ((v_5.1 0 8), v_5))
      else (
        if v2 = (1 : Int32) then (
          some ((v_5.1 0 9), v_5))
        else (
          some ((v_5.1 0 10), v_5)))))
    else (
      some ((-1 : Int32), w))))
  else (
    some ((-1 : Int32), w)))

def fX11_bridge (v1 : Int32) (w : Wd) : Option (Int32 × Wd) :=
  (fX11_isCell v1 w).bind fun v_1 => (
  if v_1 = true then (
    nw (si w 1 9 v1) fun w_3 => (
    some ((w.1 1 9), w_3)))
  else (
    some ((-1 : Int32), w)))

def fX11_carries (v1 : Int32) (w : Wd) : Option Int32 :=
  (fX11_isLine v1 w).bind fun v_1 => (
  if v_1 = true then (
    if inb v1 8 = true then (
    (fX0_lineCarries (36 + 7 * (v1).toNatClampNeg) w).bind fun v_4 => (
    if v_4 = true then (
      some (1 : Int32))
    else (
      some (0 : Int32)))) else none)
  else (
    some (-1 : Int32)))

def fX11_clear (v1 : Int32) (w : Wd) : Option (Int32 × Wd) :=
  (fX11_isTape v1 w).bind fun v_1 => (
  if v_1 = true then (
    if inb v1 6 = true then (
    nw (si w (135 + 2 * (v1).toNatClampNeg) 0 (0 : Int32)) fun w_4 => (
    nw (si w_4 (135 + 2 * (v1).toNatClampNeg) 1 (0 : Int32)) fun w_5 => (
    some ((w.1 (135 + 2 * (v1).toNatClampNeg) 0), w_5)))) else none)
  else (
    some ((-1 : Int32), w)))

def fX11_isHouse (v1 : Int32) (v2 : Int32) (w : Wd) : Option Bool :=
  (fX11_isCell v1 w).bind fun v_1 => (
  if v_1 = true then (
    if inb v1 100 = true then (
    if (ri w 20 v1) = v2 then (
      some true)
    else (
      some false)) else none)
  else (
    some false))

def fX11_coal (v1 : Int32) (v2 : Int32) (w : Wd) : Option (Int32 × Wd) :=
  (fX11_isHouse v1 (1 : Int32) w).bind fun v_1 => (
  if v_1 = true then (
    (fX11_within v2 (1 : Int32) (9999 : Int32) w).bind fun v_3 => (
    if v_3 = true then (
      if inb v1 100 = true then (
      if (99999 : Int32) < ((ri w 23 v1) + v2) then (
        some ((-2 : Int32), w))
      else (
        nw (wi w 23 v1 ((ri w 23 v1) + v2)) fun w_7 => (
        some ((ri w_7 23 v1), w_7)))) else none)
    else (
      some ((-1 : Int32), w))))
  else (
    some ((-1 : Int32), w)))

def fX11_comesBack (v1 : Int32) (w : Wd) : Option Int32 :=
  (fX11_within v1 (0 : Int32) (99999 : Int32) w).bind fun v_1 => (
  if v_1 = true then (
    (fX9_bringsBack v1 w).bind fun v_3 => (
    if v_3 = true then (
      some (1 : Int32))
    else (
      some (0 : Int32))))
  else (
    some (-1 : Int32)))

def fX11_copy_48 (w : Wd) : Option (Int32 × Wd) :=
  (fX11_refuse (-11 : Int32) w).bind fun v_1 => (
  some (v_1.1, v_1.2))
def fX11_copy_122 (w : Wd) : Option (Int32 × Wd) :=
  (fX11_refuse (-13 : Int32) w).bind fun v_1 => (
  some (v_1.1, v_1.2))
def fX11_copy_76 (w : Wd) : Option (Int32 × Wd) :=
  (fX11_refuse (-12 : Int32) w).bind fun v_1 => (
  some (v_1.1, v_1.2))
def fX11_copy (v1 : Int32) (v2 : Int32) (v3 : Int32) (v4 : Int32) (v5 : Int32) (w : Wd) : Option (Int32 × Wd) :=
  (fX11_isTape v1 w).bind fun v_1 => (
  if v_1 = true then (
    (fX11_isTape v3 w).bind fun v_3 => (
    if v_3 = true then (
      if inb v1 6 = true then (
      if inb v3 6 = true then (
      if (w.1 (135 + 2 * (v1).toNatClampNeg) 0) = 0 then (
        fX11_copy_48 w)
      else (
        if (w.1 (135 + 2 * (v3).toNatClampNeg) 0) = 0 then (
          fX11_copy_48 w)
        else (
          (fX8_holdsRow (135 + 2 * (v1).toNatClampNeg) w).bind fun v_9 => (
          if v_9 = true then (
            if (w.1 (135 + 2 * (v1).toNatClampNeg) 0) = (w.1 (135 + 2 * (v3).toNatClampNeg) 0) then (
              if v5 < 0 then (
                fX11_copy_122 w)
              else (
                if v2 < 0 then (
                  fX11_copy_122 w)
                else (
                  if v4 < 0 then (
                    fX11_copy_122 w)
                  else (
                    if ((w.1 (135 + 2 * (v1).toNatClampNeg) 1) - v5) < v2 then (
                      fX11_copy_122 w)
                    else (
                      if ((w.1 (135 + 2 * (v3).toNatClampNeg) 1) - v5) < v4 then (
                        fX11_copy_122 w)
                      else (
                        if cpok v2 v4 v5 100 100 = true then (
                        nw (cpJ w ((135 + 2 * (v1).toNatClampNeg) + 1) v2 ((135 + 2 * (v3).toNatClampNeg) + 1) v4 v5) fun w_17 => (
                        some (v5, w_17))) else none))))))
            else (
              fX11_copy_76 w))
          else (
            fX11_copy_76 w))))) else none) else none)
    else (
      some ((-1 : Int32), w))))
  else (
    some ((-1 : Int32), w)))

def fX11_count (v1 : Int32) (w : Wd) : Option Int32 :=
  if v1 = (0 : Int32) then (
    some (w.1 1 6))
  else if v1 = (1 : Int32) then (
    some (w.1 14 5))
  else if v1 = (2 : Int32) then (
    some (w.1 14 6))
  else if v1 = (3 : Int32) then (
    some (w.1 14 7))
  else if v1 = (4 : Int32) then (
    some (w.1 14 8))
  else if v1 = (5 : Int32) then (
    some (w.1 14 9))
  else if v1 = (6 : Int32) then (
    some (w.1 14 10))
  else if v1 = (7 : Int32) then (
    (fX0_foulInAll w).bind fun v_8 => (
    some v_8))
  else if v1 = (8 : Int32) then (
    (fX0_rainInAll w).bind fun v_10 => (
    some v_10))
  else if v1 = (9 : Int32) then (
    some (w.1 1 7))
  else if v1 = (10 : Int32) then (
    some (w.1 1 10))
  else if v1 = (11 : Int32) then (
    some (w.1 1 11))
  else if v1 = (12 : Int32) then (
    some (w.1 1 12))
  else if v1 = (13 : Int32) then (
    (fX11_sumOf 12 100 w).bind fun v_16 => (
    some v_16))
  else if v1 = (14 : Int32) then (
    (fX11_sumOf 13 100 w).bind fun v_18 => (
    some v_18))
  else if v1 = (15 : Int32) then (
    some (w.1 1 5))
  else if v1 = (16 : Int32) then (
    some (w.1 106 0))
  else if v1 = (17 : Int32) then (
    some (w.1 30 0))
  else if v1 = (18 : Int32) then (
    some (w.1 0 7))
  else (
  some (-1 : Int32))

def fX11_cross (v1 : Int32) (v2 : Int32) (v3 : Int32) (w : Wd) : Option Int32 :=
  (fX11_isOnLine v1 v2 w).bind fun v_1 => (
  if v_1 = true then (
    (fX11_within v3 (0 : Int32) (4999 : Int32) w).bind fun v_3 => (
    if v_3 = true then (
      if inb v1 8 = true then (
      if inb v2 19 = true then (
      (fX6_latest (ri w ((36 + 7 * (v1).toNatClampNeg) + 1) v2) v3 w).bind fun v_7 => (
      if v_7 < 0 then (
        some (0 : Int32))
      else (
        if inb v_7 200 = true then (
        if (ri w 32 v_7) = (-1 : Int32) then (
          some (0 : Int32))
        else (
          if ((ri w ((36 + 7 * (v1).toNatClampNeg) + 2) v2) - (ri w 33 v_7)) < (3 : Int32) then (
            if (-3 : Int32) < ((ri w ((36 + 7 * (v1).toNatClampNeg) + 2) v2) - (ri w 33 v_7)) then (
              some (3 : Int32))
            else (
              some (2 : Int32)))
          else (
            some (1 : Int32)))) else none))) else none) else none)
    else (
      some (-1 : Int32))))
  else (
    some (-1 : Int32)))

def fX11_cut_88 (v1 : Int32) (v3 : Int32) (v4 : Int32) (w : Wd) : Option (Int32 × Wd) :=
  if (w.1 30 0) < (200 : Int32) then (
    (fX0_today w).bind fun v_2 => (
    (fX6_note v1 v3 v4 v_2 w).bind fun v_3 => (
    some ((1 : Int32), v_3))))
  else (
    some ((-2 : Int32), w))
def fX11_cut (v1 : Int32) (w : Wd) : Option (Int32 × Wd) :=
  (fX11_isCell v1 w).bind fun v_1 => (
  if v_1 = true then (
    if inb v1 100 = true then (
    (fX0_today w).bind fun v_4 => (
    (fX6_latest v1 v_4 w).bind fun v_5 => (
    if v_5 < 0 then (
      fX11_cut_88 v1 (ri w 9 v1) (ri w 10 v1) w)
    else (
      if inb v_5 200 = true then (
      if (ri w 32 v_5) = (ri w 9 v1) then (
        if (ri w 33 v_5) = (ri w 10 v1) then (
          some ((0 : Int32), w))
        else (
          fX11_cut_88 v1 (ri w 9 v1) (ri w 10 v1) w))
      else (
        fX11_cut_88 v1 (ri w 9 v1) (ri w 10 v1) w)) else none)))) else none)
  else (
    some ((-1 : Int32), w)))

def fX11_cutOff (w : Wd) : Option (Int32 × Wd) :=
  (fX1_cellsCutOff w).bind fun v_1 => (
  some (v_1.1, v_1.2))

def fX11_gangs (v1 : Int32) (v2 : Int32) (w : Wd) : Option (Int32 × Wd) :=
  (fX11_isLine v1 w).bind fun v_1 => (
  if v_1 = true then (
    (fX11_within v2 (0 : Int32) (4 : Int32) w).bind fun v_3 => (
    if v_3 = true then (
      if inb v1 8 = true then (
      nw (si w (36 + 7 * (v1).toNatClampNeg) 2 v2) fun w_6 => (
      some ((w.1 (36 + 7 * (v1).toNatClampNeg) 2), w_6))) else none)
    else (
      some ((-1 : Int32), w))))
  else (
    some ((-1 : Int32), w)))

def fX11_holdNow (v1 : Int32) (w : Wd) : Option (Int32 × Wd) :=
  (fX0_carryingLines w).bind fun v_1 => (
  (fX1_lead v_1 w).bind fun v_2 => (
  if inb v1 100 = true then (
  some ((ri v_2 95 v1), v_2)) else none))

def fX11_holds (v1 : Int32) (v2 : Int32) (w : Wd) : Option (Int32 × Wd) :=
  (fX11_within v1 (0 : Int32) (2 : Int32) w).bind fun v_1 => (
  if v_1 = true then (
    (fX11_isCell v2 w).bind fun v_3 => (
    if v_3 = true then (
      (fX4_allow v1 v2 w).bind fun v_5 => (
      if v_5.1 = true then (
        some ((1 : Int32), v_5.2))
      else (
        some ((0 : Int32), v_5.2))))
    else (
      some ((-1 : Int32), w))))
  else (
    some ((-1 : Int32), w)))

def fX11_hours_88 (k32 : Int32 → Int32 → Wd → Option (Int32 × Wd)) (v1 : Int32) (v2 : Int32) (v3 : Int32) (w : Wd) : Option (Int32 × Wd) :=
  (fX1_passHour w).bind fun v_1 => (
  if v3 = 0 then (
    (fX0_doDaysWork v_1).bind fun v_3 => (
    (fX1_drink v_3).bind fun v_4 => (
    k32 v1 (v2 + (1 : Int32)) v_4)))
  else (
    k32 v1 (v2 + (1 : Int32)) v_1))
def fX11_hours_70 (k32 : Int32 → Int32 → Wd → Option (Int32 × Wd)) (v1 : Int32) (v2 : Int32) (v3 : Int32) (w : Wd) : Option (Int32 × Wd) :=
  (fX0_carryingLines w).bind fun v_1 => (
  (fX1_lead v_1 w).bind fun v_2 => (
  fX11_hours_88 k32 v1 v2 v3 v_2))
def fX11_hours_32 : Nat → Int32 → Int32 → Wd → Option (Int32 × Wd)
  | 0, _, _, _ => none
  | n + 1, v1, v2, w =>
  if v2 < v1 then (
    nw (si w 1 6 ((w.1 1 6) + (1 : Int32))) fun w_2 => (
    if v2 = 0 then (
      fX11_hours_70 (fX11_hours_32 n) v1 v2 (jrm (w_2.1 1 6) (24 : Int32)) w_2)
    else (
      if (jrm (w_2.1 1 6) (24 : Int32)) < (2 : Int32) then (
        fX11_hours_70 (fX11_hours_32 n) v1 v2 (jrm (w_2.1 1 6) (24 : Int32)) w_2)
      else (
        fX11_hours_88 (fX11_hours_32 n) v1 v2 (jrm (w_2.1 1 6) (24 : Int32)) w_2))))
  else (
    some ((w.1 1 6), w))
def fX11_hours (v1 : Int32) (w : Wd) : Option (Int32 × Wd) :=
  (fX11_within v1 (1 : Int32) (240 : Int32) w).bind fun v_1 => (
  if v_1 = true then (
    if (99999 : Int32) < ((w.1 1 6) + v1) then (
      some ((-2 : Int32), w))
    else (
      fX11_hours_32 FU v1 (0 : Int32) w))
  else (
    some ((-1 : Int32), w)))

def fX11_inForce (v1 : Int32) (v2 : Int32) (w : Wd) : Option Int32 :=
  (fX11_within v1 (0 : Int32) (2 : Int32) w).bind fun v_1 => (
  if v_1 = true then (
    (fX11_within v2 (0 : Int32) (4999 : Int32) w).bind fun v_3 => (
    if v_3 = true then (
      (fX4_ruling v1 v2 w).bind fun v_5 => (
      if v_5 < 0 then (
        some (-9 : Int32))
      else (
        some v_5)))
    else (
      some (-1 : Int32))))
  else (
    some (-1 : Int32)))

def fX11_isDown (v0 : Int32) (v1 : Int32) (w : Wd) : Option Bool :=
  if v1 = (-1 : Int32) then (
    some true)
  else (
    (fX11_isCell v1 w).bind fun v_2 => (
    if v_2 = true then (
      (fX11_near v0 v1 w).bind fun v_4 => (
      if v_4 = (1 : Int32) then (
        some true)
      else (
        some false)))
    else (
      some false)))

def fX11_judge_150 (v3 : Nat) (v4 : Int32) (w : Wd) : Option (Int32 × Wd) :=
  if (w.1 v3 1) < (w.1 1 5) then (
    (fX11_refuse (-13 : Int32) w).bind fun v_2 => (
    some (v_2.1, v_2.2)))
  else (
    (fX1_peopleFouled v4 w).bind fun v_3 => (
    some (v_3.1, v_3.2)))
def fX11_judge_65 : Nat → Int32 → Nat → Int32 → Int32 → Int32 → Wd → Option (Int32 × Wd)
  | 0, _, _, _, _, _, _ => none
  | n + 1, v2, v3, v4, v5, v6, w =>
  if v6 < (w.1 1 5) then (
    if v6 < (w.1 v3 1) then (
      if inb v6 100 = true then (
      if (rl w (v3 + 1) v6) = (0 : Int64) then (
        (fX11_judge_65 n) v2 v3 v4 v5 (v6 + (1 : Int32)) w)
      else (
        if inb v6 8 = true then (
        (fX0_costOf (36 + 7 * (v6).toNatClampNeg) w).bind fun v_6 => (
        if v2 < (v5 + v_6) then (
          some (((-100 : Int32) - v6), w))
        else (
          (fX11_judge_65 n) v2 v3 (v4 ||| ((1 : Int32) <<< (v6 &&& 31))) (v5 + v_6) (v6 + (1 : Int32)) w))) else none)) else none)
    else (
      fX11_judge_150 v3 v4 w))
  else (
    fX11_judge_150 v3 v4 w)
def fX11_judge (v1 : Int32) (v2 : Int32) (w : Wd) : Option (Int32 × Wd) :=
  (fX11_isTape v1 w).bind fun v_1 => (
  if v_1 = true then (
    (fX11_within v2 (0 : Int32) (9999999 : Int32) w).bind fun v_3 => (
    if v_3 = true then (
      if inb v1 6 = true then (
      if (w.1 (135 + 2 * (v1).toNatClampNeg) 0) = 0 then (
        (fX11_refuse (-11 : Int32) w).bind fun v_7 => (
        some (v_7.1, v_7.2)))
      else (
        if (w.1 (135 + 2 * (v1).toNatClampNeg) 0) = (5 : Int32) then (
          fX11_judge_65 FU v2 (135 + 2 * (v1).toNatClampNeg) (0 : Int32) (0 : Int32) (0 : Int32) w)
        else (
          (fX11_refuse (-12 : Int32) w).bind fun v_9 => (
          some (v_9.1, v_9.2))))) else none)
    else (
      some ((-1 : Int32), w))))
  else (
    some ((-1 : Int32), w)))

def fX11_kiln (v1 : Int32) (w : Wd) : Option (Int32 × Wd) :=
  (fX11_within v1 (0 : Int32) (9999 : Int32) w).bind fun v_1 => (
  if v_1 = true then (
    nw (si w 1 8 v1) fun w_3 => (
    some ((w.1 1 8), w_3)))
  else (
    some ((-1 : Int32), w)))

def fX11_lasts (v1 : Int32) (v2 : Int32) (w : Wd) : Option (Int32 × Wd) :=
  (fX11_isCell v1 w).bind fun v_1 => (
  if v_1 = true then (
    if v2 < 0 then (
      some ((-1 : Int32), w))
    else (
      (fX11_holdNow v1 w).bind fun v_4 => (
      (fX10_inDrain v1 v_4.2).bind fun v_5 => (
      if (0 : Int64) < (v_4.1.toInt64 - v_5) then (
        if v2 = 0 then (
          (fX11_refuse (-16 : Int32) v_4.2).bind fun v_8 => (
          some (v_8.1, v_8.2)))
        else (
          if v2.toInt64 = 0 then none else (
          some (((((v_4.1.toInt64 - v_5) - (1 : Int64)) / v2.toInt64) + (1 : Int64)).toInt32, v_4.2))))
      else (
        some ((0 : Int32), v_4.2))))))
  else (
    some ((-1 : Int32), w)))

def fX11_law (v1 : Int32) (v2 : Int32) (v3 : Int32) (w : Wd) : Option (Int32 × Wd) :=
  (fX11_within v1 (0 : Int32) (2 : Int32) w).bind fun v_1 => (
  if v_1 = true then (
    (fX11_within v2 (0 : Int32) (4999 : Int32) w).bind fun v_3 => (
    if v_3 = true then (
      (fX11_isTape v3 w).bind fun v_5 => (
      if v_5 = true then (
        (fX0_today w).bind fun v_7 => (
        if v2 < v_7 then (
          some ((-4 : Int32), w))
        else (
          if inb v3 6 = true then (
          if (w.1 (135 + 2 * (v3).toNatClampNeg) 0) = 0 then (
            (fX11_refuse (-11 : Int32) w).bind fun v_11 => (
            some (v_11.1, v_11.2)))
          else (
            if (w.1 (135 + 2 * (v3).toNatClampNeg) 0) = (1 : Int32) then (
              (fX4_firstFault (135 + 2 * (v3).toNatClampNeg) w).bind fun v_13 => (
              if v_13.1 < 0 then (
                if (v_13.2.1 106 0) < (20 : Int32) then (
                  if (60 : Int32) < (v_13.2.1 (135 + 2 * (v3).toNatClampNeg) 1) then (
                    some ((-2 : Int32), v_13.2))
                  else (
                    (fX4_enact v1 v2 v_13.2).bind fun v_17 => (
                    some (v_17.1, v_17.2))))
                else (
                  some ((-2 : Int32), v_13.2)))
              else (
                some (((-100 : Int32) - v_13.1), v_13.2))))
            else (
              (fX11_refuse (-12 : Int32) w).bind fun v_18 => (
              some (v_18.1, v_18.2))))) else none)))
      else (
        some ((-1 : Int32), w))))
    else (
      some ((-1 : Int32), w))))
  else (
    some ((-1 : Int32), w)))

def fX11_lift (v1 : Int32) (v2 : Int32) (v3 : Int32) (v4 : Int32) (w : Wd) : Option (Int32 × Wd) :=
  (fX11_isCell v1 w).bind fun v_1 => (
  if v_1 = true then (
    (fX11_isCell v2 w).bind fun v_3 => (
    if v_3 = true then (
      (fX11_within v3 (1 : Int32) (9999 : Int32) w).bind fun v_5 => (
      if v_5 = true then (
        (fX11_within v4 (0 : Int32) (9999 : Int32) w).bind fun v_7 => (
        if v_7 = true then (
          if v2 = v1 then (
            some ((-1 : Int32), w))
          else (
            if inb v1 100 = true then (
            if (ri w 20 v1) = (2 : Int32) then (
              some ((-3 : Int32), w))
            else (
              (fX3_elsewhere v1 w).bind fun v_12 => (
              if v_12 < (12 : Int32) then (
                nw (wi w 20 v1 (1 : Int32)) fun w_14 => (
                nw (wi w_14 21 v1 v2) fun w_15 => (
                nw (wi w_15 22 v1 v3) fun w_16 => (
                nw (wi w_16 23 v1 v4) fun w_17 => (
                nw (wi w_17 24 v1 (0 : Int32)) fun w_18 => (
                some ((0 : Int32), w_18)))))))
              else (
                some ((-2 : Int32), w))))) else none))
        else (
          some ((-1 : Int32), w))))
      else (
        some ((-1 : Int32), w))))
    else (
      some ((-1 : Int32), w))))
  else (
    some ((-1 : Int32), w)))

def fX11_map (v1 : Int32) (v2 : Int32) (v3 : Int32) (w : Wd) : Option (Int32 × Wd) :=
  (fX11_isCell v1 w).bind fun v_1 => (
  if v_1 = true then (
    (fX11_isDown v1 v2 w).bind fun v_3 => (
    if v_3 = true then (
      (fX11_within v3 (0 : Int32) (300 : Int32) w).bind fun v_5 => (
      if v_5 = true then (
        if (w.1 30 0) < (200 : Int32) then (
          (fX0_today w).bind fun v_8 => (
          (fX6_note v1 v2 v3 v_8 w).bind fun v_9 => (
          some ((v_9.1 30 0), v_9))))
        else (
          some ((-2 : Int32), w)))
      else (
        some ((-1 : Int32), w))))
    else (
      some ((-1 : Int32), w))))
  else (
    some ((-1 : Int32), w)))

def fX11_mapOf (v1 : Int32) (v2 : Int32) (v3 : Int32) (w : Wd) : Option Int32 :=
  (fX11_isCell v1 w).bind fun v_1 => (
  if v_1 = true then (
    (fX11_within v2 (0 : Int32) (1 : Int32) w).bind fun v_3 => (
    if v_3 = true then (
      (fX11_within v3 (0 : Int32) (4999 : Int32) w).bind fun v_5 => (
      if v_5 = true then (
        (fX6_latest v1 v3 w).bind fun v_7 => (
        if v_7 < 0 then (
          some (-9 : Int32))
        else (
          if v2 = 0 then (
            if inb v_7 200 = true then (
            some (ri w 32 v_7)) else none)
          else (
            if inb v_7 200 = true then (
            some (ri w 33 v_7)) else none))))
      else (
        some (-1 : Int32))))
    else (
      some (-1 : Int32))))
  else (
    some (-1 : Int32)))

def fX11_mostOf (v0 : Int32) (w : Wd) : Option Int32 :=
  if v0 = (0 : Int32) then (
    some (300 : Int32))
  else if v0 = (1 : Int32) then (
    some (3 : Int32))
  else if v0 = (2 : Int32) then (
    some (9999 : Int32))
  else if v0 = (3 : Int32) then (
    some (99 : Int32))
  else (
  some (1 : Int32))

def fX11_old (v1 : Int32) (v2 : Int32) (v3 : Int32) (v4 : Int32) (w : Wd) : Option (Int32 × Wd) :=
  (fX11_isCell v1 w).bind fun v_1 => (
  if v_1 = true then (
    (fX11_isDown v1 v2 w).bind fun v_3 => (
    if v_3 = true then (
      (fX11_within v3 (0 : Int32) (300 : Int32) w).bind fun v_5 => (
      if v_5 = true then (
        (fX11_within v4 (0 : Int32) (9 : Int32) w).bind fun v_7 => (
        if v_7 = true then (
          if inb v1 100 = true then (
          nw (wi w 9 v1 v2) fun w_10 => (
          nw (wi w_10 10 v1 v3) fun w_11 => (
          nw (wi w_11 11 v1 v4) fun w_12 => (
          some ((0 : Int32), w_12))))) else none)
        else (
          some ((-1 : Int32), w))))
      else (
        some ((-1 : Int32), w))))
    else (
      some ((-1 : Int32), w))))
  else (
    some ((-1 : Int32), w)))

def fX11_spillTank (v1 : Int32) (w : Wd) : Option Wd :=
  if inb v1 100 = true then (
  if 0 < (((ri w 28 v1) + (ri w 29 v1)) - (ri w 25 v1)) then (
    nw (wi w 29 v1 ((ri w 29 v1) - (mmin (((ri w 28 v1) + (ri w 29 v1)) - (ri w 25 v1)) (ri w 29 v1)))) fun w_3 => (
    nw (wi w_3 28 v1 ((ri w_3 28 v1) - ((((ri w 28 v1) + (ri w 29 v1)) - (ri w 25 v1)) - (mmin (((ri w 28 v1) + (ri w 29 v1)) - (ri w 25 v1)) (ri w 29 v1))))) fun w_4 => (
    nw (wi w_4 16 v1 ((ri w_4 16 v1) + (mmin (((ri w 28 v1) + (ri w 29 v1)) - (ri w 25 v1)) (ri w 29 v1)))) fun w_5 => (
    nw (wi w_5 15 v1 ((ri w_5 15 v1) + ((((ri w 28 v1) + (ri w 29 v1)) - (ri w 25 v1)) - (mmin (((ri w 28 v1) + (ri w 29 v1)) - (ri w 25 v1)) (ri w 29 v1))))) fun w_6 => (
    some w_6)))))
  else (
    some w)) else none

def fX11_out (v1 : Int32) (v2 : Int32) (v3 : Int32) (v4 : Int32) (w : Wd) : Option (Int32 × Wd) :=
  (fX11_isCell v1 w).bind fun v_1 => (
  if v_1 = true then (
    (fX11_within v2 (1 : Int32) (9999 : Int32) w).bind fun v_3 => (
    if v_3 = true then (
      (fX11_within v3 (1 : Int32) (9999 : Int32) w).bind fun v_5 => (
      if v_5 = true then (
        (fX11_within v4 (-128 : Int32) (127 : Int32) w).bind fun v_7 => (
        if v_7 = true then (
          if inb v1 100 = true then (
          if (ri w 20 v1) = (1 : Int32) then (
            some ((-3 : Int32), w))
          else (
            (fX3_elsewhere v1 w).bind fun v_11 => (
            if v_11 < (12 : Int32) then (
              nw (wi w 20 v1 (2 : Int32)) fun w_13 => (
              nw (wi w_13 25 v1 v2) fun w_14 => (
              nw (wi w_14 26 v1 v3) fun w_15 => (
              nw (wi w_15 27 v1 v4) fun w_16 => (
              (fX11_spillTank v1 w_16).bind fun v_17 => (
              some ((0 : Int32), v_17)))))))
            else (
              some ((-2 : Int32), w))))) else none)
        else (
          some ((-1 : Int32), w))))
      else (
        some ((-1 : Int32), w))))
    else (
      some ((-1 : Int32), w))))
  else (
    some ((-1 : Int32), w)))

def fX11_put (v1 : Int32) (v2 : Int32) (v3 : Int64) (w : Wd) : Option (Int32 × Wd) :=
  (fX11_isTape v1 w).bind fun v_1 => (
  if v_1 = true then (
    if inb v1 6 = true then (
    if (w.1 (135 + 2 * (v1).toNatClampNeg) 0) = 0 then (
      (fX11_refuse (-11 : Int32) w).bind fun v_5 => (
      some (v_5.1, v_5.2)))
    else (
      if (w.1 (135 + 2 * (v1).toNatClampNeg) 0) = (6 : Int32) then (
        (fX11_refuse (-12 : Int32) w).bind fun v_7 => (
        some (v_7.1, v_7.2)))
      else (
        (fX11_within v2 (0 : Int32) ((w.1 (135 + 2 * (v1).toNatClampNeg) 1) - (1 : Int32)) w).bind fun v_8 => (
        if v_8 = true then (
          (fX8_narrowed (135 + 2 * (v1).toNatClampNeg) v3 w).bind fun v_10 => (
          if inb v2 100 = true then (
          nw (wl w ((135 + 2 * (v1).toNatClampNeg) + 1) v2 v_10) fun w_12 => (
          some ((1 : Int32), w_12))) else none))
        else (
          (fX11_refuse (-13 : Int32) w).bind fun v_13 => (
          some (v_13.1, v_13.2))))))) else none)
  else (
    some ((-1 : Int32), w)))

def fX11_rain (v1 : Int32) (w : Wd) : Option (Int32 × Wd) :=
  (fX11_within v1 (0 : Int32) (200 : Int32) w).bind fun v_1 => (
  if v_1 = true then (
    nw (si w 14 4 v1) fun w_3 => (
    some ((w.1 14 4), w_3)))
  else (
    some ((-1 : Int32), w)))

def fX11_route (v1 : Int32) (v2 : Int32) (v3 : Int32) (v4 : Int32) (w : Wd) : Option (Int32 × Wd) :=
  (fX11_isCell v1 w).bind fun v_1 => (
  if v_1 = true then (
    (fX11_isCell v2 w).bind fun v_3 => (
    if v_3 = true then (
      if v1 = v2 then (
        some ((-1 : Int32), w))
      else (
        (fX11_within v3 (0 : Int32) (300 : Int32) w).bind fun v_6 => (
        if v_6 = true then (
          (fX11_within v4 (1 : Int32) (9 : Int32) w).bind fun v_8 => (
          if v_8 = true then (
            (fX11_near v1 v2 w).bind fun v_10 => (
            if (v3 - (v4 * v_10)) < 0 then (
              some ((-3 : Int32), w))
            else (
              (fX7_leastDig v1 v2 v3 v4 w).bind fun v_12 => (
              if v_12.1 < (1000000 : Int32) then (
                (fX7_follow v1 v2 v3 v4 v_12.2).bind fun v_14 => (
                some (v_12.1, v_14)))
              else (
                some ((-3 : Int32), v_12.2))))))
          else (
            some ((-1 : Int32), w))))
        else (
          some ((-1 : Int32), w)))))
    else (
      some ((-1 : Int32), w))))
  else (
    some ((-1 : Int32), w)))

def fX11_set (v1 : Int32) (v2 : Int32) (v3 : Int32) (w : Wd) : Option (Int32 × Wd) :=
  (fX2_rowToSet v2 w).bind fun v_1 => (
  match v_1 with
  | none => (
    (fX11_isCell v1 w).bind fun v_3 => (
    if v_3 = true then (
      some ((-1 : Int32), w))
    else (
      some ((-1 : Int32), w))))
  | some qa => (
    (fX11_isCell v1 w).bind fun v_5 => (
    if v_5 = true then (
      (fX11_mostOf v2 w).bind fun v_7 => (
      (fX11_within v3 (0 : Int32) v_7 w).bind fun v_8 => (
      if v_8 = true then (
        if inb v1 100 = true then (
        nw (wi w qa v1 v3) fun w_11 => (
        some ((ri w qa v1), w_11))) else none)
      else (
        some ((-1 : Int32), w)))))
    else (
      some ((-1 : Int32), w)))))

def fX11_share_97 : Nat → Int32 → Int32 → Int64 → Int64 → Int64 → Int32 → Int32 → Wd → Option (Int32 × Wd)
  | 0, _, _, _, _, _, _, _, _ => none
  | n + 1, v1, v2, v3, v5, v7, v9, v10, w =>
  if v10 < (10 : Int32) then (
    (fX2_peopleOf v10 w).bind fun v_2 => (
    if v3 = 0 then none else (
    if v3 = 0 then none else (
    if v3 = 0 then none else (
    if (0 : Int64) < ((lrm (v1.toInt64 * v_2.toInt64) v3) - (lrm v5 v3)) then (
      (fX11_share_97 n) v1 v2 v3 v5 (v7 - ((v1.toInt64 * v_2.toInt64) / v3)) (v9 + (1 : Int32)) (v10 + (1 : Int32)) w)
    else (
      if ((lrm (v1.toInt64 * v_2.toInt64) v3) - (lrm v5 v3)) = (0 : Int64) then (
        if v10 < v2 then (
          (fX11_share_97 n) v1 v2 v3 v5 (v7 - ((v1.toInt64 * v_2.toInt64) / v3)) (v9 + (1 : Int32)) (v10 + (1 : Int32)) w)
        else (
          (fX11_share_97 n) v1 v2 v3 v5 (v7 - ((v1.toInt64 * v_2.toInt64) / v3)) v9 (v10 + (1 : Int32)) w))
      else (
        (fX11_share_97 n) v1 v2 v3 v5 (v7 - ((v1.toInt64 * v_2.toInt64) / v3)) v9 (v10 + (1 : Int32)) w)))))))
  else (
    if v3 = 0 then none else (
    if v9.toInt64 < v7 then (
      some (((v5 / v3).toInt32 + (1 : Int32)), w))
    else (
      some (((v5 / v3).toInt32 + (0 : Int32)), w))))
def fX11_share_28 : Nat → Int32 → Int32 → Int64 → Int32 → Wd → Option (Int32 × Wd)
  | 0, _, _, _, _, _ => none
  | n + 1, v1, v2, v3, v5, w =>
  if v5 < (10 : Int32) then (
    (fX2_peopleOf v5 w).bind fun v_2 => (
    (fX11_share_28 n) v1 v2 (v3 + v_2.toInt64) (v5 + (1 : Int32)) w))
  else (
    if (0 : Int64) < v3 then (
      (fX2_peopleOf v2 w).bind fun v_4 => (
      fX11_share_97 FU v1 v2 v3 (v1.toInt64 * v_4.toInt64) v1.toInt64 (0 : Int32) (0 : Int32) w))
    else (
      (fX11_refuse (-16 : Int32) w).bind fun v_5 => (
      some (v_5.1, v_5.2))))
def fX11_share (v1 : Int32) (v2 : Int32) (w : Wd) : Option (Int32 × Wd) :=
  (fX11_within v1 (0 : Int32) (9999999 : Int32) w).bind fun v_1 => (
  if v_1 = true then (
    (fX11_within v2 (0 : Int32) (9 : Int32) w).bind fun v_3 => (
    if v_3 = true then (
      fX11_share_28 FU v1 v2 (0 : Int64) (0 : Int32) w)
    else (
      some ((-1 : Int32), w))))
  else (
    some ((-1 : Int32), w)))

def fX11_size (v1 : Int32) (w : Wd) : Option Int32 :=
  (fX11_isLine v1 w).bind fun v_1 => (
  if v_1 = true then (
    if inb v1 8 = true then (
    some (w.1 (36 + 7 * (v1).toNatClampNeg) 3)) else none)
  else (
    some (-1 : Int32)))

def fX11_stop_20 (v1 : Int32) (s0 : Int32) (w : Wd) : Option (Int32 × Wd) :=
  if inb v1 100 = true then (
  if (ri w 24 v1) = s0 then (
    some ((0 : Int32), w))
  else (
    nw (wi w 24 v1 s0) fun w_3 => (
    some ((1 : Int32), w_3)))) else none
def fX11_stop (v1 : Int32) (v2 : Int32) (w : Wd) : Option (Int32 × Wd) :=
  (fX11_isHouse v1 (1 : Int32) w).bind fun v_1 => (
  if v_1 = true then (
    if v2 = 0 then (
      fX11_stop_20 v1 (0 : Int32) w)
    else (
      fX11_stop_20 v1 (1 : Int32) w))
  else (
    some ((-1 : Int32), w)))

def fX11_take (v1 : Int32) (v2 : Int32) (w : Wd) : Option (Int32 × Wd) :=
  (fX11_within v1 (1 : Int32) (9 : Int32) w).bind fun v_1 => (
  if v_1 = true then (
    (fX11_within v2 (0 : Int32) (1 : Int32) w).bind fun v_3 => (
    if v_3 = true then (
      if (w.1 102 0) = 0 then (
        some ((-3 : Int32), w))
      else (
        if (w.1 1 5) < (8 : Int32) then (
          if inb (w.1 1 5) 8 = true then (
          (fX5_start (36 + 7 * ((w.1 1 5)).toNatClampNeg) v1 v2 w).bind fun v_8 => (
          nw (si v_8 1 5 ((v_8.1 1 5) + (1 : Int32))) fun w_9 => (
          some (((w_9.1 1 5) - (1 : Int32)), w_9)))) else none)
        else (
          some ((-2 : Int32), w))))
    else (
      some ((-1 : Int32), w))))
  else (
    some ((-1 : Int32), w)))

def fX11_tape (v1 : Int32) (v2 : Int32) (v3 : Int32) (w : Wd) : Option (Int32 × Wd) :=
  (fX11_isTape v1 w).bind fun v_1 => (
  if v_1 = true then (
    (fX11_within v2 (1 : Int32) (5 : Int32) w).bind fun v_3 => (
    if v_3 = true then (
      if (100 : Int32) < v3 then (
        some ((-1 : Int32), w))
      else (
        if v3 < 0 then (
          (fX11_refuse (-14 : Int32) w).bind fun v_7 => (
          some (v_7.1, v_7.2)))
        else (
          if inb v1 6 = true then (
          nw (si w (135 + 2 * (v1).toNatClampNeg) 0 v2) fun w_9 => (
          nw (si w_9 (135 + 2 * (v1).toNatClampNeg) 1 v3) fun w_10 => (
          nw (flJ w_10 ((135 + 2 * (v1).toNatClampNeg) + 1) 100 (0 : Int64)) fun w_11 => (
          some (v3, w_11))))) else none)))
    else (
      some ((-1 : Int32), w))))
  else (
    some ((-1 : Int32), w)))

def fX11_tide (v1 : Int32) (w : Wd) : Option (Int32 × Wd) :=
  (fX11_isTape v1 w).bind fun v_1 => (
  if v_1 = true then (
    if inb v1 6 = true then (
    if (w.1 (135 + 2 * (v1).toNatClampNeg) 0) = 0 then (
      (fX11_refuse (-11 : Int32) w).bind fun v_5 => (
      some (v_5.1, v_5.2)))
    else (
      if (w.1 (135 + 2 * (v1).toNatClampNeg) 0) = (1 : Int32) then (
        (fX11_within (w.1 (135 + 2 * (v1).toNatClampNeg) 1) (1 : Int32) (60 : Int32) w).bind fun v_7 => (
        if v_7 = true then (
          (fX9_learn (135 + 2 * (v1).toNatClampNeg) w).bind fun v_9 => (
          some ((v_9.1 100 0), v_9)))
        else (
          some ((-2 : Int32), w))))
      else (
        (fX11_refuse (-12 : Int32) w).bind fun v_10 => (
        some (v_10.1, v_10.2))))) else none)
  else (
    some ((-1 : Int32), w)))

def fX11_toss_46 (w : Wd) : Option (Int32 × Wd) :=
  (fX11_refuse (-12 : Int32) w).bind fun v_1 => (
  some (v_1.1, v_1.2))
def fX11_toss (v1 : Int32) (w : Wd) : Option (Int32 × Wd) :=
  (fX11_isTape v1 w).bind fun v_1 => (
  if v_1 = true then (
    if inb v1 6 = true then (
    if (w.1 (135 + 2 * (v1).toNatClampNeg) 0) = 0 then (
      (fX11_refuse (-11 : Int32) w).bind fun v_5 => (
      some (v_5.1, v_5.2)))
    else (
      if (w.1 (135 + 2 * (v1).toNatClampNeg) 0) = (6 : Int32) then (
        if w.1 (135 + 2 * (v1).toNatClampNeg) 3 = 0 then (
          fX11_toss_46 w)
        else (
          (fX10_foulCellars (imZ (135 + 2 * (v1).toNatClampNeg)) w).bind fun v_8 => (
          if v_8 = 0 then (
            (fX11_refuse (-15 : Int32) w).bind fun v_10 => (
            some (v_10.1, v_10.2)))
          else (
            some (v_8, w)))))
      else (
        fX11_toss_46 w))) else none)
  else (
    some ((-1 : Int32), w)))

def fX11_way (v1 : Int32) (w : Wd) : Option Int32 :=
  (fX11_within v1 (0 : Int32) ((w.1 102 0) - (1 : Int32)) w).bind fun v_1 => (
  if v_1 = true then (
    if inb v1 19 = true then (
    some (ri w 103 v1)) else none)
  else (
    some (-9 : Int32)))

def fX11_window_25 (w : Wd) : Nat → Int32 → Int32 → Int32 → Option Int32
  | 0, _, _, _ => none
  | n + 1, v1, v2, v3 =>
  if v3 < (v1 + (100 : Int32)) then (
    (fX9_levelAt v3 w).bind fun v_2 => (
    if v_2 < v2 then (
      (fX9_bringsBack v3 w).bind fun v_4 => (
      if v_4 = true then (
        (fX11_window_25 w n) v1 v2 (v3 + (1 : Int32)))
      else (
        some v3)))
    else (
      (fX11_window_25 w n) v1 v2 (v3 + (1 : Int32)))))
  else (
    some (-3 : Int32))
def fX11_window (v1 : Int32) (v2 : Int32) (w : Wd) : Option Int32 :=
  (fX11_within v1 (0 : Int32) (99999 : Int32) w).bind fun v_1 => (
  if v_1 = true then (
    (fX11_within v2 (-128 : Int32) (127 : Int32) w).bind fun v_3 => (
    if v_3 = true then (
      fX11_window_25 w FU v1 v2 v1)
    else (
      some (-1 : Int32))))
  else (
    some (-1 : Int32)))

def fX12_start_24 : Nat → Int32 → Wd → Option Wd
  | 0, _, _ => none
  | n + 1, v1, w =>
  if v1 < (100 : Int32) then (
    if inb (((15 : Int32) * v1) + (0 : Int32)) 4340 = true then (
    nw (wi w 149 (((15 : Int32) * v1) + (0 : Int32)) (100 : Int32)) fun w_3 => (
    if inb (((15 : Int32) * v1) + (3 : Int32)) 4340 = true then (
    nw (wi w_3 149 (((15 : Int32) * v1) + (3 : Int32)) (50 : Int32)) fun w_5 => (
    if inb (((15 : Int32) * v1) + (6 : Int32)) 4340 = true then (
    nw (wi w_5 149 (((15 : Int32) * v1) + (6 : Int32)) (-1 : Int32)) fun w_7 => (
    (fX12_start_24 n) (v1 + (1 : Int32)) w_7)) else none)) else none)) else none)
  else (
    nw (si w 148 21 (0 : Int32)) fun w_8 => (
    nw (si w_8 148 4 (0 : Int32)) fun w_9 => (
    nw (si w_9 148 6 (0 : Int32)) fun w_10 => (
    nw (si w_10 148 2 (0 : Int32)) fun w_11 => (
    some w_11)))))
def fX12_start_2 : Nat → Int32 → Wd → Option Wd
  | 0, _, _ => none
  | n + 1, v1, w =>
  if v1 < (4340 : Int32) then (
    if inb v1 4340 = true then (
    nw (wi w 149 v1 (0 : Int32)) fun w_3 => (
    (fX12_start_2 n) (v1 + (1 : Int32)) w_3)) else none)
  else (
    fX12_start_24 FU (0 : Int32) w)
def fX12_start (w : Wd) : Option Wd :=
  fX12_start_2 FU (0 : Int32) w

def fX12_isRow (v0 : Int32) (w : Wd) : Option Bool :=
  (fX12_in v0.toInt64 (1 : Int64) (5 : Int64) w).bind fun v_1 => (
  some v_1)

def fX12_isTape (v0 : Int32) (w : Wd) : Option Bool :=
  (fX12_in v0.toInt64 (0 : Int64) (5 : Int64) w).bind fun v_1 => (
  some v_1)

def fX12_at_49 (w : Wd) : Option (Int64 × Wd) :=
  nw (si w 148 0 (2 : Int32)) fun w_1 => (
  some ((0 : Int64), w_1))
def fX12_at (v1 : Int32) (v2 : Int32) (w : Wd) : Option (Int64 × Wd) :=
  nw (si w 148 0 (0 : Int32)) fun w_1 => (
  (fX12_isTape v1 w_1).bind fun v_2 => (
  if v_2 = true then (
    if inb v1 6 = true then (
    (fX12_isRow (ri w_1 165 v1) w_1).bind fun v_5 => (
    if v_5 = true then (
      (fX12_in v2.toInt64 (0 : Int64) (((ri w_1 166 v1) - (1 : Int32)).toInt64) w_1).bind fun v_7 => (
      if v_7 = true then (
        if inb (((100 : Int32) * v1) + v2) 600 = true then (
        some ((rl w_1 167 (((100 : Int32) * v1) + v2)), w_1)) else none)
      else (
        fX12_at_49 w_1)))
    else (
      fX12_at_49 w_1))) else none)
  else (
    nw (si w_1 148 0 (1 : Int32)) fun w_10 => (
    some ((0 : Int64), w_10)))))

def fX12_host (v1 : Int32) (w : Wd) : Option (Int32 × Wd) :=
  nw (si w 148 2 ((w.1 148 2) + (1 : Int32))) fun w_1 => (
  some (v1, w_1))

def fX12_back_50 : Nat → Int32 → Int32 → Wd → Option (Int32 × Wd)
  | 0, _, _, _ => none
  | n + 1, v1, v2, w =>
  if v2 < (4340 : Int32) then (
    if inb (((4340 : Int32) * v1) + v2) 26040 = true then (
    if inb v2 4340 = true then (
    nw (wi w 149 v2 (ri w 168 (((4340 : Int32) * v1) + v2))) fun w_4 => (
    (fX12_back_50 n) v1 (v2 + (1 : Int32)) w_4)) else none) else none)
  else (
    (fX12_g (0 : Int32) w).bind fun v_5 => (
    some (v_5, w)))
def fX12_back (v1 : Int32) (w : Wd) : Option (Int32 × Wd) :=
  nw (si w 148 0 (0 : Int32)) fun w_1 => (
  (fX12_isTape v1 w_1).bind fun v_2 => (
  if v_2 = true then (
    if inb v1 6 = true then (
    if (ri w_1 165 v1) = 0 then (
      (fX12_host (-11 : Int32) w_1).bind fun v_6 => (
      some (v_6.1, v_6.2)))
    else (
      if (ri w_1 165 v1) = (6 : Int32) then (
        fX12_back_50 FU v1 (0 : Int32) w_1)
      else (
        (fX12_host (-12 : Int32) w_1).bind fun v_8 => (
        some (v_8.1, v_8.2))))) else none)
  else (
    some ((-1 : Int32), w_1))))

def fX12_isLine (v1 : Int32) (w : Wd) : Option Bool :=
  (fX12_g (15 : Int32) w).bind fun v_1 => (
  (fX12_in v1.toInt64 (0 : Int64) ((v_1 - (1 : Int32)).toInt64) w).bind fun v_2 => (
  some v_2))

def fX12_isSpot (v1 : Int32) (v2 : Int32) (w : Wd) : Option Bool :=
  (fX12_isLine v1 w).bind fun v_1 => (
  if v_1 = true then (
    (fX12_l v1 (0 : Int32) w).bind fun v_3 => (
    (fX12_in v2.toInt64 (0 : Int64) ((v_3 - (1 : Int32)).toInt64) w).bind fun v_4 => (
    if v_4 = true then (
      some true)
    else (
      some false))))
  else (
    some false))

def fX12_bad_82 (s1 : Int32) (s2 : Int32) (w : Wd) : Option (Int32 × Wd) :=
  if inb s1 4340 = true then (
  nw (wi w 149 s1 s2) fun w_2 => (
  some ((1 : Int32), w_2))) else none
def fX12_bad_59 (v3 : Int32) (v4 : Int32) (s0 : Int32) (w : Wd) : Option (Int32 × Wd) :=
  if s0 = v3 then (
    some ((0 : Int32), w))
  else (
    if v3 = 0 then (
      fX12_bad_82 (v4 + (5 : Int32)) (0 : Int32) w)
    else (
      fX12_bad_82 (v4 + (5 : Int32)) (1 : Int32) w))
def fX12_bad (v1 : Int32) (v2 : Int32) (v3 : Int32) (w : Wd) : Option (Int32 × Wd) :=
  nw (si w 148 0 (0 : Int32)) fun w_1 => (
  (fX12_isSpot v1 v2 w_1).bind fun v_2 => (
  if v_2 = true then (
    (fX12_spot v1 v2 w_1).bind fun v_4 => (
    if inb (v_4 + (3 : Int32)) 4340 = true then (
    if (ri w_1 149 (v_4 + (3 : Int32))) = (-9 : Int32) then (
      some ((-4 : Int32), w_1))
    else (
      if inb (v_4 + (5 : Int32)) 4340 = true then (
      if (ri w_1 149 (v_4 + (5 : Int32))) = (1 : Int32) then (
        fX12_bad_59 v3 v_4 (1 : Int32) w_1)
      else (
        fX12_bad_59 v3 v_4 (0 : Int32) w_1)) else none)) else none))
  else (
    some ((-1 : Int32), w_1))))

def fX12_isBearing_118 (v2 : Int32) (s0 : Int32) (w : Wd) : Option Bool :=
  (fX12_depthAt v2 w).bind fun v_1 => (
  if s0 < v_1 then (
    some false)
  else (
    some true))
def fX12_isBearing_97 (v2 : Int32) (v5 : Int32) (w : Wd) : Option Bool :=
  if inb (v2 + (5 : Int32)) 4340 = true then (
  if (ri w 149 (v2 + (5 : Int32))) = (1 : Int32) then (
    fX12_isBearing_118 v2 (v5 / (2 : Int32)) w)
  else (
    fX12_isBearing_118 v2 v5 w)) else none
def fX12_isBearing_39 (v2 : Int32) (s0 : Int32) (w : Wd) : Option Bool :=
  if inb (v2 + (4 : Int32)) 4340 = true then (
  if (ri w 149 (v2 + (4 : Int32))) = (1 : Int32) then (
    fX12_isBearing_97 v2 (s0 / (2 : Int32)) w)
  else (
    fX12_isBearing_97 v2 s0 w)) else none
def fX12_isBearing_95 (v2 : Int32) (s0 : Int32) (w : Wd) : Option Bool :=
  fX12_isBearing_97 v2 s0 w
def fX12_isBearing (v1 : Int32) (v2 : Int32) (v3 : Int32) (w : Wd) : Option Bool :=
  if inb (v2 + (3 : Int32)) 4340 = true then (
  (fX12_l v1 (2 : Int32) w).bind fun v_2 => (
  if v_2 = 0 then (
    if (100 : Int32) < ((2 : Int32) * (v3 - (ri w 149 (v2 + (3 : Int32))))) then (
      fX12_isBearing_39 v2 (100 : Int32) w)
    else (
      fX12_isBearing_39 v2 ((2 : Int32) * (v3 - (ri w 149 (v2 + (3 : Int32))))) w))
  else (
    if (300 : Int32) < ((10 : Int32) + ((6 : Int32) * (v3 - (ri w 149 (v2 + (3 : Int32)))))) then (
      fX12_isBearing_95 v2 (300 : Int32) w)
    else (
      fX12_isBearing_95 v2 ((10 : Int32) + ((6 : Int32) * (v3 - (ri w 149 (v2 + (3 : Int32)))))) w)))) else none

def fX12_bears_49 : Nat → Int32 → Int32 → Int32 → Wd → Option (Int32 × Wd)
  | 0, _, _, _, _ => none
  | n + 1, v1, v3, v4, w =>
  if (9999 : Int32) < v4 then (
    some ((-3 : Int32), w))
  else (
    (fX12_isBearing v1 v3 v4 w).bind fun v_2 => (
    if v_2 = true then (
      some (v4, w))
    else (
      (fX12_bears_49 n) v1 v3 (v4 + (1 : Int32)) w)))
def fX12_bears (v1 : Int32) (v2 : Int32) (w : Wd) : Option (Int32 × Wd) :=
  nw (si w 148 0 (0 : Int32)) fun w_1 => (
  (fX12_isSpot v1 v2 w_1).bind fun v_2 => (
  if v_2 = true then (
    (fX12_spot v1 v2 w_1).bind fun v_4 => (
    if inb (v_4 + (3 : Int32)) 4340 = true then (
    if (ri w_1 149 (v_4 + (3 : Int32))) = (-9 : Int32) then (
      some ((-4 : Int32), w_1))
    else (
      fX12_bears_49 FU v1 v_4 (ri w_1 149 (v_4 + (3 : Int32))) w_1)) else none))
  else (
    some ((-1 : Int32), w_1))))

def fX12_begin (w : Wd) : Option (Int32 × Wd) :=
  nw (si w 148 0 (0 : Int32)) fun w_1 => (
  (fX12_start w_1).bind fun v_2 => (
  some ((0 : Int32), v_2)))

def fX12_digOf (v1 : Int32) (v2 : Int32) (w : Wd) : Option Int32 :=
  (fX12_c v1 (0 : Int32) w).bind fun v_1 => (
  if 0 < (v_1 - v2) then (
    (fX12_c v1 (1 : Int32) w).bind fun v_3 => (
    some ((v_1 - v2) * ((2 : Int32) + v_3))))
  else (
    some ((-9 : Int32) * (v_1 - v2))))

def fX12_digAt (v1 : Int32) (w : Wd) : Option Int32 :=
  if inb (v1 + (0 : Int32)) 4340 = true then (
  if inb (v1 + (1 : Int32)) 4340 = true then (
  (fX12_digOf (ri w 149 (v1 + (0 : Int32))) (ri w 149 (v1 + (1 : Int32))) w).bind fun v_3 => (
  some v_3)) else none) else none

def fX12_costOf_17 (k4 : Int32 → Int32 → Int32 → Option Int32) (w : Wd) : Nat → Int32 → Int32 → Int32 → Int32 → Option Int32
  | 0, _, _, _, _ => none
  | n + 1, v1, v2, v3, v4 =>
  (fX12_l v3 (0 : Int32) w).bind fun v_1 => (
  if v4 < v_1 then (
    if ((v1 >>> (v3 &&& 31)) &&& (1 : Int32)) = (1 : Int32) then (
      (fX12_spot v3 v4 w).bind fun v_4 => (
      (fX12_digAt v_4 w).bind fun v_5 => (
      (fX12_l v3 (1 : Int32) w).bind fun v_6 => (
      (fX12_costOf_17 k4 w n) v1 (v2 + (v_5 + ((10 : Int32) * v_6))) v3 (v4 + (1 : Int32))))))
    else (
      k4 v1 v2 (v3 + (1 : Int32))))
  else (
    k4 v1 v2 (v3 + (1 : Int32))))
def fX12_costOf_4 (w : Wd) : Nat → Int32 → Int32 → Int32 → Option Int32
  | 0, _, _, _ => none
  | n + 1, v1, v2, v3 =>
  (fX12_g (15 : Int32) w).bind fun v_1 => (
  if v3 < v_1 then (
    fX12_costOf_17 (fX12_costOf_4 w n) w FU v1 v2 v3 (0 : Int32))
  else (
    some v2))
def fX12_costOf (v1 : Int32) (w : Wd) : Option Int32 :=
  fX12_costOf_4 w FU v1 (0 : Int32) (0 : Int32)

def fX12_h (v1 : Int32) (v2 : Int32) (w : Wd) : Option Int32 :=
  if inb (((1500 : Int32) + ((10 : Int32) * v1)) + v2) 4340 = true then (
  some (ri w 149 (((1500 : Int32) + ((10 : Int32) * v1)) + v2))) else none

def fX12_nextBy_48 (k19 : Int32 → Int32 → Int32 → Option Int32) (v1 : Int32) (v2 : Int32) (v3 : Int32) (s0 : Int32) (w : Wd) : Option Int32 :=
  if s0 = (-1 : Int32) then (
    k19 v1 v2 (v3 + (1 : Int32)))
  else (
    (fX12_l v3 (0 : Int32) w).bind fun v_2 => (
    if s0 < (v_2 - (1 : Int32)) then (
      (fX12_spot v3 (s0 + (1 : Int32)) w).bind fun v_4 => (
      if inb (v_4 + (0 : Int32)) 4340 = true then (
      some (ri w 149 (v_4 + (0 : Int32)))) else none))
    else (
      (fX12_c v2 (6 : Int32) w).bind fun v_6 => (
      some v_6))))
def fX12_nextBy_19 (w : Wd) : Nat → Int32 → Int32 → Int32 → Option Int32
  | 0, _, _, _ => none
  | n + 1, v1, v2, v3 =>
  (fX12_g (15 : Int32) w).bind fun v_1 => (
  if v3 < v_1 then (
    if ((v1 >>> (v3 &&& 31)) &&& (1 : Int32)) = (1 : Int32) then (
      (fX12_placeOn v3 v2 w).bind fun v_4 => (
      fX12_nextBy_48 (fX12_nextBy_19 w n) v1 v2 v3 v_4 w))
    else (
      fX12_nextBy_48 (fX12_nextBy_19 w n) v1 v2 v3 (-1 : Int32) w))
  else (
    (fX12_c v2 (6 : Int32) w).bind fun v_5 => (
    some v_5)))
def fX12_nextBy (v1 : Int32) (v2 : Int32) (w : Wd) : Option Int32 :=
  (fX12_h v2 (0 : Int32) w).bind fun v_1 => (
  if v_1 = (1 : Int32) then (
    (fX12_h v2 (1 : Int32) w).bind fun v_3 => (
    some v_3))
  else (
    fX12_nextBy_19 w FU v1 v2 (0 : Int32)))

def fX12_fouledBy_141 (k30 : Int32 → Int32 → Wd → Option (Int32 × Wd)) (v3 : Int32) (s0 : Int32) (w : Wd) : Option (Int32 × Wd) :=
  k30 (s0 + (0 : Int32)) (v3 + (1 : Int32)) w
def fX12_fouledBy_114 (k30 : Int32 → Int32 → Wd → Option (Int32 × Wd)) (v2 : Int32) (v3 : Int32) (v4 : Int32) (w : Wd) : Option (Int32 × Wd) :=
  if v4 = (-1 : Int32) then (
    fX12_fouledBy_141 k30 v3 v2 w)
  else (
    (fX12_c v4 (4 : Int32) w).bind fun v_2 => (
    if v_2 = (1 : Int32) then (
      (fX12_c v3 (2 : Int32) w).bind fun v_4 => (
      k30 (v2 + v_4) (v3 + (1 : Int32)) w))
    else (
      fX12_fouledBy_141 k30 v3 v2 w)))
def fX12_fouledBy_64 (k30 : Int32 → Int32 → Wd → Option (Int32 × Wd)) : Nat → Int32 → Int32 → Int32 → Int32 → Wd → Option (Int32 × Wd)
  | 0, _, _, _, _, _ => none
  | n + 1, v2, v3, v4, v5, w =>
  if v5 < (200 : Int32) then (
    if v4 = (-1 : Int32) then (
      fX12_fouledBy_114 k30 v2 v3 v4 w)
    else (
      (fX12_c v4 (4 : Int32) w).bind fun v_3 => (
      if v_3 = 0 then (
        (fX12_h v4 (0 : Int32) w).bind fun v_5 => (
        if v_5 = (2 : Int32) then (
          fX12_fouledBy_114 k30 v2 v3 v4 w)
        else (
          if inb v4 100 = true then (
          (fX12_fouledBy_64 k30 n) v2 v3 (ri w 164 v4) (v5 + (1 : Int32)) w) else none)))
      else (
        fX12_fouledBy_114 k30 v2 v3 v4 w))))
  else (
    fX12_fouledBy_114 k30 v2 v3 v4 w)
def fX12_fouledBy_30 : Nat → Int32 → Int32 → Wd → Option (Int32 × Wd)
  | 0, _, _, _ => none
  | n + 1, v2, v3, w =>
  if v3 < (100 : Int32) then (
    (fX12_c v3 (4 : Int32) w).bind fun v_2 => (
    if v_2 = (1 : Int32) then (
      (fX12_fouledBy_30 n) v2 (v3 + (1 : Int32)) w)
    else (
      (fX12_c v3 (2 : Int32) w).bind fun v_4 => (
      if v_4 = 0 then (
        (fX12_fouledBy_30 n) v2 (v3 + (1 : Int32)) w)
      else (
        fX12_fouledBy_64 (fX12_fouledBy_30 n) FU v2 v3 v3 (0 : Int32) w)))))
  else (
    some (v2, w))
def fX12_fouledBy_2 : Nat → Int32 → Int32 → Wd → Option (Int32 × Wd)
  | 0, _, _, _ => none
  | n + 1, v1, v2, w =>
  if v2 < (100 : Int32) then (
    (fX12_nextBy v1 v2 w).bind fun v_2 => (
    if inb v2 100 = true then (
    nw (wi w 164 v2 v_2) fun w_4 => (
    (fX12_fouledBy_2 n) v1 (v2 + (1 : Int32)) w_4)) else none))
  else (
    fX12_fouledBy_30 FU (0 : Int32) (0 : Int32) w)
def fX12_fouledBy (v1 : Int32) (w : Wd) : Option (Int32 × Wd) :=
  fX12_fouledBy_2 FU v1 (0 : Int32) w

def fX12_best_108 (k46 : Int32 → Int32 → Int32 → Int32 → Int32 → Int32 → Wd → Option (Int32 × Wd)) (v1 : Int32) (v2 : Int32) (v6 : Int32) (v7 : Int32) (v8 : Int32) (w : Wd) : Option (Int32 × Wd) :=
  k46 v1 v2 v6 v8 v7 (v6 + (1 : Int32)) w
def fX12_best_46 : Nat → Int32 → Int32 → Int32 → Int32 → Int32 → Int32 → Wd → Option (Int32 × Wd)
  | 0, _, _, _, _, _, _, _ => none
  | n + 1, v1, v2, v3, v4, v5, v6, w =>
  (fX12_g (15 : Int32) w).bind fun v_1 => (
  if v6 < ((1 : Int32) <<< (v_1 &&& 31)) then (
    (fX12_costOf v6 w).bind fun v_3 => (
    if v1 < v_3 then (
      (fX12_best_46 n) v1 v2 v3 v4 v5 (v6 + (1 : Int32)) w)
    else (
      (fX12_fouledBy v6 w).bind fun v_5 => (
      if v4 < v_5.1 then (
        (fX12_best_46 n) v1 v2 v3 v4 v5 (v6 + (1 : Int32)) v_5.2)
      else (
        if v_5.1 = v4 then (
          if v_3 < v5 then (
            fX12_best_108 (fX12_best_46 n) v1 v2 v6 v_3 v_5.1 v_5.2)
          else (
            (fX12_best_46 n) v1 v2 v3 v4 v5 (v6 + (1 : Int32)) v_5.2))
        else (
          fX12_best_108 (fX12_best_46 n) v1 v2 v6 v_3 v_5.1 v_5.2))))))
  else (
    if v2 = 0 then (
      some (v3, w))
    else (
      if v2 = (1 : Int32) then (
        some (v4, w))
      else (
        some (v5, w)))))
def fX12_best (v1 : Int32) (v2 : Int32) (w : Wd) : Option (Int32 × Wd) :=
  nw (si w 148 0 (0 : Int32)) fun w_1 => (
  (fX12_in v1.toInt64 (0 : Int64) (9999999 : Int64) w_1).bind fun v_2 => (
  if v_2 = true then (
    (fX12_in v2.toInt64 (0 : Int64) (2 : Int64) w_1).bind fun v_4 => (
    if v_4 = true then (
      (fX12_fouledBy (0 : Int32) w_1).bind fun v_6 => (
      fX12_best_46 FU v1 v2 (0 : Int32) v_6.1 (0 : Int32) (1 : Int32) v_6.2))
    else (
      some ((-1 : Int32), w_1))))
  else (
    some ((-1 : Int32), w_1))))

def fX12_isCell (v0 : Int32) (w : Wd) : Option Bool :=
  (fX12_in v0.toInt64 (0 : Int64) (99 : Int64) w).bind fun v_1 => (
  some v_1)

def fX12_bridge (v1 : Int32) (w : Wd) : Option (Int32 × Wd) :=
  nw (si w 148 0 (0 : Int32)) fun w_1 => (
  (fX12_isCell v1 w_1).bind fun v_2 => (
  if v_2 = true then (
    (fX12_g (4 : Int32) w_1).bind fun v_4 => (
    nw (wi w_1 149 (4304 : Int32) v1) fun w_5 => (
    some (v_4, w_5))))
  else (
    some ((-1 : Int32), w_1))))

def fX12_isCarrying_2 (w : Wd) : Nat → Int32 → Int32 → Option Bool
  | 0, _, _ => none
  | n + 1, v1, v2 =>
  (fX12_l v1 (0 : Int32) w).bind fun v_1 => (
  if v2 < v_1 then (
    (fX12_spot v1 v2 w).bind fun v_3 => (
    if inb (v_3 + (3 : Int32)) 4340 = true then (
    if (ri w 149 (v_3 + (3 : Int32))) = (-9 : Int32) then (
      some false)
    else (
      (fX12_day w).bind fun v_6 => (
      (fX12_isBearing v1 v_3 v_6 w).bind fun v_7 => (
      if v_7 = true then (
        (fX12_isCarrying_2 w n) v1 (v2 + (1 : Int32)))
      else (
        some false))))) else none))
  else (
    some true))
def fX12_isCarrying (v1 : Int32) (w : Wd) : Option Bool :=
  fX12_isCarrying_2 w FU v1 (0 : Int32)

def fX12_carries (v1 : Int32) (w : Wd) : Option (Int32 × Wd) :=
  nw (si w 148 0 (0 : Int32)) fun w_1 => (
  (fX12_isLine v1 w_1).bind fun v_2 => (
  if v_2 = true then (
    (fX12_isCarrying v1 w_1).bind fun v_4 => (
    if v_4 = true then (
      some ((1 : Int32), w_1))
    else (
      some ((0 : Int32), w_1))))
  else (
    some ((-1 : Int32), w_1))))

def fX12_clear (v1 : Int32) (w : Wd) : Option (Int32 × Wd) :=
  nw (si w 148 0 (0 : Int32)) fun w_1 => (
  (fX12_isTape v1 w_1).bind fun v_2 => (
  if v_2 = true then (
    if inb v1 6 = true then (
    nw (wi w_1 165 v1 (0 : Int32)) fun w_5 => (
    nw (wi w_5 166 v1 (0 : Int32)) fun w_6 => (
    some ((ri w_1 165 v1), w_6)))) else none)
  else (
    some ((-1 : Int32), w_1))))

def fX12_coal (v1 : Int32) (v2 : Int32) (w : Wd) : Option (Int32 × Wd) :=
  nw (si w 148 0 (0 : Int32)) fun w_1 => (
  (fX12_isCell v1 w_1).bind fun v_2 => (
  if v_2 = true then (
    (fX12_in v2.toInt64 (1 : Int64) (9999 : Int64) w_1).bind fun v_4 => (
    if v_4 = true then (
      (fX12_h v1 (0 : Int32) w_1).bind fun v_6 => (
      if v_6 = (1 : Int32) then (
        (fX12_h v1 (3 : Int32) w_1).bind fun v_8 => (
        if (99999 : Int32) < (v_8 + v2) then (
          some ((-2 : Int32), w_1))
        else (
          if inb (((1500 : Int32) + ((10 : Int32) * v1)) + (3 : Int32)) 4340 = true then (
          nw (wi w_1 149 (((1500 : Int32) + ((10 : Int32) * v1)) + (3 : Int32)) ((ri w_1 149 (((1500 : Int32) + ((10 : Int32) * v1)) + (3 : Int32))) + v2)) fun w_11 => (
          (fX12_h v1 (3 : Int32) w_11).bind fun v_12 => (
          some (v_12, w_11)))) else none)))
      else (
        some ((-1 : Int32), w_1))))
    else (
      some ((-1 : Int32), w_1))))
  else (
    some ((-1 : Int32), w_1))))

def fX12_isBack_2 (w : Wd) : Nat → Int32 → Int32 → Option Bool
  | 0, _, _ => none
  | n + 1, v1, v2 =>
  if (12 : Int32) < v2 then (
    some false)
  else (
    (fX12_levelAt v1 w).bind fun v_2 => (
    (fX12_levelAt (v1 + v2) w).bind fun v_3 => (
    if v_2 < v_3 then (
      some true)
    else (
      (fX12_isBack_2 w n) v1 (v2 + (1 : Int32))))))
def fX12_isBack (v1 : Int32) (w : Wd) : Option Bool :=
  fX12_isBack_2 w FU v1 (1 : Int32)

def fX12_comesBack (v1 : Int32) (w : Wd) : Option (Int32 × Wd) :=
  nw (si w 148 0 (0 : Int32)) fun w_1 => (
  (fX12_in v1.toInt64 (0 : Int64) (99999 : Int64) w_1).bind fun v_2 => (
  if v_2 = true then (
    (fX12_isBack v1 w_1).bind fun v_4 => (
    if v_4 = true then (
      some ((1 : Int32), w_1))
    else (
      some ((0 : Int32), w_1))))
  else (
    some ((-1 : Int32), w_1))))

def fX12_copy_39 (w : Wd) : Option (Int32 × Wd) :=
  (fX12_host (-11 : Int32) w).bind fun v_1 => (
  some (v_1.1, v_1.2))
def fX12_copy_121 (w : Wd) : Option (Int32 × Wd) :=
  (fX12_host (-13 : Int32) w).bind fun v_1 => (
  some (v_1.1, v_1.2))
def fX12_copy_190 : Nat → Int32 → Int32 → Int32 → Int32 → Int32 → Int32 → Wd → Option (Int32 × Wd)
  | 0, _, _, _, _, _, _, _ => none
  | n + 1, v1, v2, v3, v4, v5, v6, w =>
  if v6 < 0 then (
    some (v5, w))
  else (
    if v1 = v3 then (
      if v2 < v4 then (
        if inb ((((100 : Int32) * v1) + v2) + v6) 600 = true then (
        if inb ((((100 : Int32) * v3) + v4) + v6) 600 = true then (
        nw (wl w 167 ((((100 : Int32) * v3) + v4) + v6) (rl w 167 ((((100 : Int32) * v1) + v2) + v6))) fun w_6 => (
        (fX12_copy_190 n) v1 v2 v3 v4 v5 (v6 + (-1 : Int32)) w_6)) else none) else none)
      else (
        some (v5, w)))
    else (
      some (v5, w)))
def fX12_copy_184 (v1 : Int32) (v2 : Int32) (v3 : Int32) (v4 : Int32) (v5 : Int32) (w : Wd) : Option (Int32 × Wd) :=
  fX12_copy_190 FU v1 v2 v3 v4 v5 (v5 - (1 : Int32)) w
def fX12_copy_149 (k131 : Int32 → Int32 → Int32 → Int32 → Int32 → Int32 → Wd → Option (Int32 × Wd)) (v1 : Int32) (v2 : Int32) (v3 : Int32) (v4 : Int32) (v5 : Int32) (v6 : Int32) (w : Wd) : Option (Int32 × Wd) :=
  if inb ((((100 : Int32) * v1) + v2) + v6) 600 = true then (
  if inb ((((100 : Int32) * v3) + v4) + v6) 600 = true then (
  nw (wl w 167 ((((100 : Int32) * v3) + v4) + v6) (rl w 167 ((((100 : Int32) * v1) + v2) + v6))) fun w_3 => (
  k131 v1 v2 v3 v4 v5 (v6 + (1 : Int32)) w_3)) else none) else none
def fX12_copy_131 : Nat → Int32 → Int32 → Int32 → Int32 → Int32 → Int32 → Wd → Option (Int32 × Wd)
  | 0, _, _, _, _, _, _, _ => none
  | n + 1, v1, v2, v3, v4, v5, v6, w =>
  if v6 < v5 then (
    if v1 = v3 then (
      if v2 < v4 then (
        fX12_copy_184 v1 v2 v3 v4 v5 w)
      else (
        fX12_copy_149 (fX12_copy_131 n) v1 v2 v3 v4 v5 v6 w))
    else (
      fX12_copy_149 (fX12_copy_131 n) v1 v2 v3 v4 v5 v6 w))
  else (
    fX12_copy_184 v1 v2 v3 v4 v5 w)
def fX12_copy_73 (w : Wd) : Option (Int32 × Wd) :=
  (fX12_host (-12 : Int32) w).bind fun v_1 => (
  some (v_1.1, v_1.2))
def fX12_copy (v1 : Int32) (v2 : Int32) (v3 : Int32) (v4 : Int32) (v5 : Int32) (w : Wd) : Option (Int32 × Wd) :=
  nw (si w 148 0 (0 : Int32)) fun w_1 => (
  (fX12_isTape v1 w_1).bind fun v_2 => (
  if v_2 = true then (
    (fX12_isTape v3 w_1).bind fun v_4 => (
    if v_4 = true then (
      if inb v1 6 = true then (
      if (ri w_1 165 v1) = 0 then (
        fX12_copy_39 w_1)
      else (
        if inb v3 6 = true then (
        if (ri w_1 165 v3) = 0 then (
          fX12_copy_39 w_1)
        else (
          (fX12_isRow (ri w_1 165 v1) w_1).bind fun v_10 => (
          if v_10 = true then (
            if (ri w_1 165 v1) = (ri w_1 165 v3) then (
              if v5 < 0 then (
                fX12_copy_121 w_1)
              else (
                if v2 < 0 then (
                  fX12_copy_121 w_1)
                else (
                  if v4 < 0 then (
                    fX12_copy_121 w_1)
                  else (
                    if ((ri w_1 166 v1) - v5) < v2 then (
                      fX12_copy_121 w_1)
                    else (
                      if ((ri w_1 166 v3) - v5) < v4 then (
                        fX12_copy_121 w_1)
                      else (
                        fX12_copy_131 FU v1 v2 v3 v4 v5 (0 : Int32) w_1))))))
            else (
              fX12_copy_73 w_1))
          else (
            fX12_copy_73 w_1)))) else none)) else none)
    else (
      some ((-1 : Int32), w_1))))
  else (
    some ((-1 : Int32), w_1))))

def fX12_crackedMany_4 (w : Wd) : Nat → Int32 → Int32 → Option Int32
  | 0, _, _ => none
  | n + 1, v1, v2 =>
  if v2 < (100 : Int32) then (
    (fX12_c v2 (13 : Int32) w).bind fun v_2 => (
    (fX12_crackedMany_4 w n) (v1 + v_2) (v2 + (1 : Int32))))
  else (
    some v1)
def fX12_crackedMany (w : Wd) : Option Int32 :=
  fX12_crackedMany_4 w FU (0 : Int32) (0 : Int32)

def fX12_heldIn_6 (w : Wd) : Nat → Int32 → Int32 → Int32 → Int32 → Int32 → Option Int32
  | 0, _, _, _, _, _ => none
  | n + 1, v1, v2, v3, v4, v5 =>
  if v5 < (100 : Int32) then (
    (fX12_c v5 v1 w).bind fun v_2 => (
    (fX12_c v5 v2 w).bind fun v_3 => (
    (fX12_h v5 v3 w).bind fun v_4 => (
    (fX12_heldIn_6 w n) v1 v2 v3 (v4 + ((v_2 + v_3) + v_4)) (v5 + (1 : Int32))))))
  else (
    some v4)
def fX12_heldIn (v1 : Int32) (v2 : Int32) (v3 : Int32) (w : Wd) : Option Int32 :=
  fX12_heldIn_6 w FU v1 v2 v3 (0 : Int32) (0 : Int32)

def fX12_count (v1 : Int32) (w : Wd) : Option (Int32 × Wd) :=
  nw (si w 148 0 (0 : Int32)) fun w_1 => (
  if v1 = (0 : Int32) then (
    (fX12_g (0 : Int32) w_1).bind fun v_2 => (
    some (v_2, w_1)))
  else if v1 = (1 : Int32) then (
    (fX12_g (5 : Int32) w_1).bind fun v_4 => (
    some (v_4, w_1)))
  else if v1 = (2 : Int32) then (
    (fX12_g (6 : Int32) w_1).bind fun v_6 => (
    some (v_6, w_1)))
  else if v1 = (3 : Int32) then (
    (fX12_g (7 : Int32) w_1).bind fun v_8 => (
    some (v_8, w_1)))
  else if v1 = (4 : Int32) then (
    (fX12_g (8 : Int32) w_1).bind fun v_10 => (
    some (v_10, w_1)))
  else if v1 = (5 : Int32) then (
    (fX12_g (9 : Int32) w_1).bind fun v_12 => (
    some (v_12, w_1)))
  else if v1 = (6 : Int32) then (
    (fX12_g (10 : Int32) w_1).bind fun v_14 => (
    some (v_14, w_1)))
  else if v1 = (7 : Int32) then (
    (fX12_heldIn (9 : Int32) (11 : Int32) (8 : Int32) w_1).bind fun v_16 => (
    some (v_16, w_1)))
  else if v1 = (8 : Int32) then (
    (fX12_heldIn (10 : Int32) (12 : Int32) (9 : Int32) w_1).bind fun v_18 => (
    some (v_18, w_1)))
  else if v1 = (9 : Int32) then (
    (fX12_g (1 : Int32) w_1).bind fun v_20 => (
    some (v_20, w_1)))
  else if v1 = (10 : Int32) then (
    (fX12_g (11 : Int32) w_1).bind fun v_22 => (
    some (v_22, w_1)))
  else if v1 = (11 : Int32) then (
    (fX12_g (12 : Int32) w_1).bind fun v_24 => (
    some (v_24, w_1)))
  else if v1 = (12 : Int32) then (
    (fX12_g (13 : Int32) w_1).bind fun v_26 => (
    some (v_26, w_1)))
  else if v1 = (13 : Int32) then (
    (fX12_crackedMany w_1).bind fun v_28 => (
    some (v_28, w_1)))
  else if v1 = (14 : Int32) then (
    (fX12_g (14 : Int32) w_1).bind fun v_30 => (
    some (v_30, w_1)))
  else if v1 = (15 : Int32) then (
    (fX12_g (15 : Int32) w_1).bind fun v_32 => (
    some (v_32, w_1)))
  else if v1 = (16 : Int32) then (
    some ((w_1.1 148 21), w_1))
  else if v1 = (17 : Int32) then (
    (fX12_g (16 : Int32) w_1).bind fun v_35 => (
    some (v_35, w_1)))
  else if v1 = (18 : Int32) then (
    some ((w_1.1 148 2), w_1))
  else (
  some ((-1 : Int32), w_1)))

def fX12_telling_5 (w : Wd) : Nat → Int32 → Int32 → Int32 → Int32 → Option Int32
  | 0, _, _, _, _ => none
  | n + 1, v1, v2, v3, v4 =>
  (fX12_g (16 : Int32) w).bind fun v_1 => (
  if v4 < v_1 then (
    if inb ((2500 : Int32) + ((4 : Int32) * v4)) 4340 = true then (
    if (ri w 149 ((2500 : Int32) + ((4 : Int32) * v4))) = v1 then (
      if inb (((2500 : Int32) + ((4 : Int32) * v4)) + (3 : Int32)) 4340 = true then (
      if v2 < (ri w 149 (((2500 : Int32) + ((4 : Int32) * v4)) + (3 : Int32))) then (
        (fX12_telling_5 w n) v1 v2 v3 (v4 + (1 : Int32)))
      else (
        (fX12_telling_5 w n) v1 v2 ((2500 : Int32) + ((4 : Int32) * v4)) (v4 + (1 : Int32)))) else none)
    else (
      (fX12_telling_5 w n) v1 v2 v3 (v4 + (1 : Int32)))) else none)
  else (
    some v3))
def fX12_telling (v1 : Int32) (v2 : Int32) (w : Wd) : Option Int32 :=
  fX12_telling_5 w FU v1 v2 (-1 : Int32) (0 : Int32)

def fX12_cross (v1 : Int32) (v2 : Int32) (v3 : Int32) (w : Wd) : Option (Int32 × Wd) :=
  nw (si w 148 0 (0 : Int32)) fun w_1 => (
  (fX12_isSpot v1 v2 w_1).bind fun v_2 => (
  if v_2 = true then (
    (fX12_in v3.toInt64 (0 : Int64) (4999 : Int64) w_1).bind fun v_4 => (
    if v_4 = true then (
      (fX12_spot v1 v2 w_1).bind fun v_6 => (
      if inb (v_6 + (0 : Int32)) 4340 = true then (
      (fX12_telling (ri w_1 149 (v_6 + (0 : Int32))) v3 w_1).bind fun v_8 => (
      if v_8 = (-1 : Int32) then (
        some ((0 : Int32), w_1))
      else (
        if inb (v_8 + (1 : Int32)) 4340 = true then (
        if (ri w_1 149 (v_8 + (1 : Int32))) = (-1 : Int32) then (
          some ((0 : Int32), w_1))
        else (
          if inb (v_6 + (1 : Int32)) 4340 = true then (
          if inb (v_8 + (2 : Int32)) 4340 = true then (
          if ((ri w_1 149 (v_6 + (1 : Int32))) - (ri w_1 149 (v_8 + (2 : Int32)))) < (3 : Int32) then (
            if (-3 : Int32) < ((ri w_1 149 (v_6 + (1 : Int32))) - (ri w_1 149 (v_8 + (2 : Int32)))) then (
              some ((3 : Int32), w_1))
            else (
              some ((2 : Int32), w_1)))
          else (
            some ((1 : Int32), w_1))) else none) else none)) else none))) else none))
    else (
      some ((-1 : Int32), w_1))))
  else (
    some ((-1 : Int32), w_1))))

def fX12_tells (v1 : Int32) (v2 : Int32) (v3 : Int32) (w : Wd) : Option (Int32 × Wd) :=
  (fX12_g (16 : Int32) w).bind fun v_1 => (
  if inb ((2500 : Int32) + ((4 : Int32) * v_1)) 4340 = true then (
  nw (wi w 149 ((2500 : Int32) + ((4 : Int32) * v_1)) v1) fun w_3 => (
  if inb (((2500 : Int32) + ((4 : Int32) * v_1)) + (1 : Int32)) 4340 = true then (
  nw (wi w_3 149 (((2500 : Int32) + ((4 : Int32) * v_1)) + (1 : Int32)) v2) fun w_5 => (
  if inb (((2500 : Int32) + ((4 : Int32) * v_1)) + (2 : Int32)) 4340 = true then (
  nw (wi w_5 149 (((2500 : Int32) + ((4 : Int32) * v_1)) + (2 : Int32)) v3) fun w_7 => (
  (fX12_day w_7).bind fun v_8 => (
  if inb (((2500 : Int32) + ((4 : Int32) * v_1)) + (3 : Int32)) 4340 = true then (
  nw (wi w_7 149 (((2500 : Int32) + ((4 : Int32) * v_1)) + (3 : Int32)) v_8) fun w_10 => (
  nw (wi w_10 149 (4316 : Int32) ((ri w_10 149 (4316 : Int32)) + (1 : Int32))) fun w_11 => (
  (fX12_g (16 : Int32) w_11).bind fun v_12 => (
  some (v_12, w_11))))) else none))) else none)) else none)) else none)

def fX12_cut_67 (v1 : Int32) (w : Wd) : Option (Int32 × Wd) :=
  (fX12_g (16 : Int32) w).bind fun v_1 => (
  if v_1 = (200 : Int32) then (
    some ((-2 : Int32), w))
  else (
    (fX12_c v1 (6 : Int32) w).bind fun v_3 => (
    (fX12_c v1 (7 : Int32) w).bind fun v_4 => (
    (fX12_tells v1 v_3 v_4 w).bind fun v_5 => (
    some ((1 : Int32), v_5.2))))))
def fX12_cut (v1 : Int32) (w : Wd) : Option (Int32 × Wd) :=
  nw (si w 148 0 (0 : Int32)) fun w_1 => (
  (fX12_isCell v1 w_1).bind fun v_2 => (
  if v_2 = true then (
    (fX12_day w_1).bind fun v_4 => (
    (fX12_telling v1 v_4 w_1).bind fun v_5 => (
    if v_5 = (-1 : Int32) then (
      fX12_cut_67 v1 w_1)
    else (
      if inb (v_5 + (1 : Int32)) 4340 = true then (
      (fX12_c v1 (6 : Int32) w_1).bind fun v_8 => (
      if (ri w_1 149 (v_5 + (1 : Int32))) = v_8 then (
        if inb (v_5 + (2 : Int32)) 4340 = true then (
        (fX12_c v1 (7 : Int32) w_1).bind fun v_11 => (
        if (ri w_1 149 (v_5 + (2 : Int32))) = v_11 then (
          some ((0 : Int32), w_1))
        else (
          fX12_cut_67 v1 w_1))) else none)
      else (
        fX12_cut_67 v1 w_1))) else none))))
  else (
    some ((-1 : Int32), w_1))))

def fX12_cutOff_40 (k7 : Int32 → Wd → Option (Int32 × Wd)) (v1 : Int32) (s1 : Int32) (s2 : Int32) (w : Wd) : Option (Int32 × Wd) :=
  if inb s1 100 = true then (
  nw (wi w 157 s1 (vp_nar .boolean s2)) fun w_2 => (
  if inb v1 100 = true then (
  nw (wi w_2 158 v1 (vp_nar .boolean (0 : Int32))) fun w_4 => (
  k7 (v1 + (1 : Int32)) w_4)) else none)) else none
def fX12_cutOff_39 (k7 : Int32 → Wd → Option (Int32 × Wd)) (v1 : Int32) (s1 : Int32) (w : Wd) : Option (Int32 × Wd) :=
  fX12_cutOff_40 k7 v1 s1 (0 : Int32) w
def fX12_cutOff_237 (k199 : Int32 → Int32 → Wd → Option (Int32 × Wd)) (v3 : Int32) (s0 : Int32) (w : Wd) : Option (Int32 × Wd) :=
  k199 (s0 + (0 : Int32)) (v3 + (1 : Int32)) w
def fX12_cutOff_199 : Nat → Int32 → Int32 → Wd → Option (Int32 × Wd)
  | 0, _, _, _ => none
  | n + 1, v2, v3, w =>
  if v3 < (100 : Int32) then (
    (fX12_c v3 (2 : Int32) w).bind fun v_2 => (
    if 0 < v_2 then (
      (fX12_c v3 (4 : Int32) w).bind fun v_4 => (
      if v_4 = 0 then (
        if inb v3 100 = true then (
        if (ri w 158 v3) = 0 then (
          (fX12_cutOff_199 n) (v2 + (1 : Int32)) (v3 + (1 : Int32)) w)
        else (
          fX12_cutOff_237 (fX12_cutOff_199 n) v3 v2 w)) else none)
      else (
        fX12_cutOff_237 (fX12_cutOff_199 n) v3 v2 w)))
    else (
      fX12_cutOff_237 (fX12_cutOff_199 n) v3 v2 w)))
  else (
    some (v2, w))
def fX12_cutOff_160 (k76 : Int32 → Wd → Option (Int32 × Wd)) (k84 : Int32 → Int32 → Wd → Option (Int32 × Wd)) (k113 : Int32 → Int32 → Int32 → Wd → Option (Int32 × Wd)) (v1 : Int32) (v2 : Int32) (v3 : Int32) (s1 : Int32) (s2 : Int32) (w : Wd) : Option (Int32 × Wd) :=
  if inb s1 100 = true then (
  nw (wi w 158 s1 (vp_nar .boolean s2)) fun w_2 => (
  k113 v1 v2 (v3 + (1 : Int32)) w_2)) else none
def fX12_cutOff_159 (k76 : Int32 → Wd → Option (Int32 × Wd)) (k84 : Int32 → Int32 → Wd → Option (Int32 × Wd)) (k113 : Int32 → Int32 → Int32 → Wd → Option (Int32 × Wd)) (v1 : Int32) (v2 : Int32) (v3 : Int32) (s1 : Int32) (w : Wd) : Option (Int32 × Wd) :=
  fX12_cutOff_160 k76 k84 k113 v1 v2 v3 s1 (0 : Int32) w
def fX12_cutOff_113 (k76 : Int32 → Wd → Option (Int32 × Wd)) (k84 : Int32 → Int32 → Wd → Option (Int32 × Wd)) : Nat → Int32 → Int32 → Int32 → Wd → Option (Int32 × Wd)
  | 0, _, _, _, _ => none
  | n + 1, v1, v2, v3, w =>
  if v3 < (4 : Int32) then (
    (fX12_beside v2 v3 w).bind fun v_2 => (
    if inb v2 100 = true then (
    if (ri w 158 v2) = 0 then (
      if v_2 = (-1 : Int32) then (
        fX12_cutOff_159 k76 k84 (fX12_cutOff_113 k76 k84 n) v1 v2 v3 v2 w)
      else (
        if inb v_2 100 = true then (
        if (ri w 158 v_2) = 0 then (
          fX12_cutOff_159 k76 k84 (fX12_cutOff_113 k76 k84 n) v1 v2 v3 v2 w)
        else (
          fX12_cutOff_160 k76 k84 (fX12_cutOff_113 k76 k84 n) v1 v2 v3 v2 (1 : Int32) w)) else none))
    else (
      fX12_cutOff_160 k76 k84 (fX12_cutOff_113 k76 k84 n) v1 v2 v3 v2 (1 : Int32) w)) else none))
  else (
    if v1 = 0 then (
      if inb v2 100 = true then (
      if (ri w 158 v2) = 0 then (
        k84 (0 : Int32) (v2 + (1 : Int32)) w)
      else (
        k84 (1 : Int32) (v2 + (1 : Int32)) w)) else none)
    else (
      k84 (1 : Int32) (v2 + (1 : Int32)) w))
def fX12_cutOff_84 (k76 : Int32 → Wd → Option (Int32 × Wd)) : Nat → Int32 → Int32 → Wd → Option (Int32 × Wd)
  | 0, _, _, _ => none
  | n + 1, v1, v2, w =>
  if v2 < (100 : Int32) then (
    if inb v2 100 = true then (
    if (ri w 157 v2) = 0 then (
      (fX12_cutOff_84 k76 n) v1 (v2 + (1 : Int32)) w)
    else (
      if (ri w 158 v2) = 0 then (
        fX12_cutOff_113 k76 (fX12_cutOff_84 k76 n) FU v1 v2 (0 : Int32) w)
      else (
        (fX12_cutOff_84 k76 n) v1 (v2 + (1 : Int32)) w))) else none)
  else (
    k76 v1 w)
def fX12_cutOff_76 : Nat → Int32 → Wd → Option (Int32 × Wd)
  | 0, _, _ => none
  | n + 1, v1, w =>
  if v1 = 0 then (
    fX12_cutOff_199 FU (0 : Int32) (0 : Int32) w)
  else (
    fX12_cutOff_84 (fX12_cutOff_76 n) FU (0 : Int32) (0 : Int32) w)
def fX12_cutOff_7 : Nat → Int32 → Wd → Option (Int32 × Wd)
  | 0, _, _ => none
  | n + 1, v1, w =>
  if v1 < (100 : Int32) then (
    (fX12_c v1 (4 : Int32) w).bind fun v_2 => (
    if v_2 = 0 then (
      (fX12_isShut v1 w).bind fun v_4 => (
      if v_4 = true then (
        fX12_cutOff_39 (fX12_cutOff_7 n) v1 v1 w)
      else (
        fX12_cutOff_40 (fX12_cutOff_7 n) v1 v1 (1 : Int32) w)))
    else (
      fX12_cutOff_39 (fX12_cutOff_7 n) v1 v1 w)))
  else (
    (fX12_g (4 : Int32) w).bind fun v_6 => (
    (fX12_g (4 : Int32) w).bind fun v_7 => (
    if inb v_7 100 = true then (
    if inb v_6 100 = true then (
    nw (wi w 158 v_6 (vp_nar .boolean (ri w 157 v_7))) fun w_10 => (
    fX12_cutOff_76 FU (1 : Int32) w_10)) else none) else none)))
def fX12_cutOff (w : Wd) : Option (Int32 × Wd) :=
  nw (si w 148 0 (0 : Int32)) fun w_1 => (
  fX12_cutOff_7 FU (0 : Int32) w_1)

def fX12_gangs (v1 : Int32) (v2 : Int32) (w : Wd) : Option (Int32 × Wd) :=
  nw (si w 148 0 (0 : Int32)) fun w_1 => (
  (fX12_isLine v1 w_1).bind fun v_2 => (
  if v_2 = true then (
    (fX12_in v2.toInt64 (0 : Int64) (4 : Int64) w_1).bind fun v_4 => (
    if v_4 = true then (
      (fX12_l v1 (3 : Int32) w_1).bind fun v_6 => (
      if inb (((3300 : Int32) + ((125 : Int32) * v1)) + (3 : Int32)) 4340 = true then (
      nw (wi w_1 149 (((3300 : Int32) + ((125 : Int32) * v1)) + (3 : Int32)) v2) fun w_8 => (
      some (v_6, w_8))) else none))
    else (
      some ((-1 : Int32), w_1))))
  else (
    some ((-1 : Int32), w_1))))

def fX12_forceOf_5 (w : Wd) : Nat → Int32 → Int32 → Int32 → Int32 → Option Int32
  | 0, _, _, _, _ => none
  | n + 1, v1, v2, v3, v4 =>
  if v4 < (w.1 148 21) then (
    if inb v4 20 = true then (
    if (ri w 159 v4) = v1 then (
      if v2 < (ri w 160 v4) then (
        (fX12_forceOf_5 w n) v1 v2 v3 (v4 + (1 : Int32)))
      else (
        if v3 = (-1 : Int32) then (
          (fX12_forceOf_5 w n) v1 v2 v4 (v4 + (1 : Int32)))
        else (
          if inb v3 20 = true then (
          if (ri w 160 v4) < (ri w 160 v3) then (
            (fX12_forceOf_5 w n) v1 v2 v3 (v4 + (1 : Int32)))
          else (
            (fX12_forceOf_5 w n) v1 v2 v4 (v4 + (1 : Int32)))) else none)))
    else (
      (fX12_forceOf_5 w n) v1 v2 v3 (v4 + (1 : Int32)))) else none)
  else (
    some v3)
def fX12_forceOf (v1 : Int32) (v2 : Int32) (w : Wd) : Option Int32 :=
  fX12_forceOf_5 w FU v1 v2 (-1 : Int32) (0 : Int32)

def fX12_reads (w : Wd) : Option (Bool × Wd) :=
  nw (si w 148 24 (0 : Int32)) fun w_1 => (
  nw (si w_1 148 25 (0 : Int32)) fun w_2 => (
  nw (si w_2 148 26 (0 : Int32)) fun w_3 => (
  (kMO w_3).bind fun v_4 => (
  if (v_4.2.1 148 26) = 0 then (
    if (v_4.2.1 148 24) < (v_4.2.1 148 23) then (
      nw (si v_4.2 148 26 (1 : Int32)) fun w_7 => (
      some (v_4.1, w_7)))
    else (
      some (v_4.1, v_4.2)))
  else (
    some (v_4.1, v_4.2))))))

def fX12_isHeld_39 : Nat → Int32 → Int32 → Int32 → Wd → Option (Bool × Wd)
  | 0, _, _, _, _ => none
  | n + 1, v2, v3, v4, w =>
  if v4 < (w.1 148 23) then (
    if inb (((60 : Int32) * v3) + v4) 1200 = true then (
    if inb v4 100 = true then (
    nw (wi w 163 v4 (ri w 162 (((60 : Int32) * v3) + v4))) fun w_4 => (
    (fX12_isHeld_39 n) v2 v3 (v4 + (1 : Int32)) w_4)) else none) else none)
  else (
    nw (si w 148 27 v2) fun w_5 => (
    (fX12_reads w_5).bind fun v_6 => (
    some (v_6.1, v_6.2))))
def fX12_isHeld (v1 : Int32) (v2 : Int32) (w : Wd) : Option (Bool × Wd) :=
  (fX12_day w).bind fun v_1 => (
  (fX12_forceOf v1 v_1 w).bind fun v_2 => (
  if v_2 = (-1 : Int32) then (
    if v1 = (1 : Int32) then (
      some (false, w))
    else (
      some (true, w)))
  else (
    if inb v_2 20 = true then (
    nw (si w 148 23 (ri w 161 v_2)) fun w_6 => (
    fX12_isHeld_39 FU v2 v_2 (0 : Int32) w_6)) else none)))

def fX12_holds (v1 : Int32) (v2 : Int32) (w : Wd) : Option (Int32 × Wd) :=
  nw (si w 148 0 (0 : Int32)) fun w_1 => (
  (fX12_in v1.toInt64 (0 : Int64) (2 : Int64) w_1).bind fun v_2 => (
  if v_2 = true then (
    (fX12_isCell v2 w_1).bind fun v_4 => (
    if v_4 = true then (
      (fX12_isHeld v1 v2 w_1).bind fun v_6 => (
      if v_6.1 = true then (
        some ((1 : Int32), v_6.2))
      else (
        some ((0 : Int32), v_6.2))))
    else (
      some ((-1 : Int32), w_1))))
  else (
    some ((-1 : Int32), w_1))))

def fX12_comes (v1 : Int32) (v2 : Int32) (v3 : Int32) (w : Wd) : Option Wd :=
  (fX12_c v1 (4 : Int32) w).bind fun v_1 => (
  if v_1 = (1 : Int32) then (
    nw (wi w 149 (4307 : Int32) ((ri w 149 (4307 : Int32)) + v2)) fun w_3 => (
    nw (wi w_3 149 (4308 : Int32) ((ri w_3 149 (4308 : Int32)) + v3)) fun w_4 => (
    some w_4)))
  else (
    if inb (((15 : Int32) * v1) + (9 : Int32)) 4340 = true then (
    nw (wi w 149 (((15 : Int32) * v1) + (9 : Int32)) ((ri w 149 (((15 : Int32) * v1) + (9 : Int32))) + v2)) fun w_6 => (
    if inb (((15 : Int32) * v1) + (10 : Int32)) 4340 = true then (
    nw (wi w_6 149 (((15 : Int32) * v1) + (10 : Int32)) ((ri w_6 149 (((15 : Int32) * v1) + (10 : Int32))) + v3)) fun w_8 => (
    some w_8)) else none)) else none))

def fX12_isBadPump_18 (w : Wd) : Nat → Int32 → Int32 → Int32 → Option Bool
  | 0, _, _, _ => none
  | n + 1, v1, v2, v3 =>
  if v3 < (4 : Int32) then (
    if v2 = 0 then (
      (fX12_beside v1 v3 w).bind fun v_3 => (
      if v_3 = (-1 : Int32) then (
        (fX12_isBadPump_18 w n) v1 (0 : Int32) (v3 + (1 : Int32)))
      else (
        (fX12_beside v1 v3 w).bind fun v_5 => (
        (fX12_c v_5 (11 : Int32) w).bind fun v_6 => (
        if 0 < v_6 then (
          (fX12_isBadPump_18 w n) v1 (1 : Int32) (v3 + (1 : Int32)))
        else (
          (fX12_isBadPump_18 w n) v1 (0 : Int32) (v3 + (1 : Int32))))))))
    else (
      (fX12_isBadPump_18 w n) v1 (1 : Int32) (v3 + (1 : Int32))))
  else (
    if v2 = 0 then some false else if v2 = 1 then some true else none)
def fX12_isBadPump (v1 : Int32) (w : Wd) : Option Bool :=
  (fX12_c v1 (11 : Int32) w).bind fun v_1 => (
  if 0 < v_1 then (
    fX12_isBadPump_18 w FU v1 (1 : Int32) (0 : Int32))
  else (
    fX12_isBadPump_18 w FU v1 (0 : Int32) (0 : Int32)))

def fX12_off (v0 : Int32) (v1 : Int32) (w : Wd) : Option Int32 :=
  if v0 < v1 then (
    some (v1 - v0))
  else (
    some (v0 - v1))

def fX12_near (v0 : Int32) (v1 : Int32) (w : Wd) : Option Int32 :=
  (fX12_off (jrm v0 (10 : Int32)) (jrm v1 (10 : Int32)) w).bind fun v_1 => (
  (fX12_off (v0 / (10 : Int32)) (v1 / (10 : Int32)) w).bind fun v_2 => (
  some (v_1 + v_2)))

def fX12_drinks_14 : Nat → Int32 → Int32 → Int32 → Wd → Option Wd
  | 0, _, _, _, _ => none
  | n + 1, v1, v2, v3, w =>
  if v3 < (100 : Int32) then (
    (fX12_c v3 (5 : Int32) w).bind fun v_2 => (
    if v_2 = (1 : Int32) then (
      if v2 = (-1 : Int32) then (
        (fX12_drinks_14 n) v1 v3 (v3 + (1 : Int32)) w)
      else (
        (fX12_near v1 v3 w).bind fun v_5 => (
        (fX12_near v1 v2 w).bind fun v_6 => (
        if v_5 < v_6 then (
          (fX12_drinks_14 n) v1 v3 (v3 + (1 : Int32)) w)
        else (
          (fX12_drinks_14 n) v1 v2 (v3 + (1 : Int32)) w)))))
    else (
      (fX12_drinks_14 n) v1 v2 (v3 + (1 : Int32)) w)))
  else (
    if v2 = (-1 : Int32) then (
      some w)
    else (
      (fX12_isBadPump v2 w).bind fun v_9 => (
      if v_9 = true then (
        if inb (((15 : Int32) * v2) + (14 : Int32)) 4340 = true then (
        (fX12_c v1 (2 : Int32) w).bind fun v_12 => (
        nw (wi w 149 (((15 : Int32) * v2) + (14 : Int32)) ((ri w 149 (((15 : Int32) * v2) + (14 : Int32))) + (v_12 / (50 : Int32)))) fun w_13 => (
        (fX12_c v1 (2 : Int32) w_13).bind fun v_14 => (
        nw (wi w_13 149 (4314 : Int32) ((ri w_13 149 (4314 : Int32)) + (v_14 / (50 : Int32)))) fun w_15 => (
        some w_15))))) else none)
      else (
        some w))))
def fX12_drinks (v1 : Int32) (w : Wd) : Option Wd :=
  (fX12_c v1 (2 : Int32) w).bind fun v_1 => (
  if v_1 = 0 then (
    some w)
  else (
    fX12_drinks_14 FU v1 (-1 : Int32) (0 : Int32) w))

def fX12_carrying_2 : Nat → Int32 → Int32 → Wd → Option (Int32 × Wd)
  | 0, _, _, _ => none
  | n + 1, v1, v2, w =>
  (fX12_g (15 : Int32) w).bind fun v_1 => (
  if v2 < v_1 then (
    (fX12_placeOn v2 v1 w).bind fun v_3 => (
    if v_3 = (-1 : Int32) then (
      (fX12_carrying_2 n) v1 (v2 + (1 : Int32)) w)
    else (
      if inb v2 8 = true then (
      if (ri w 153 v2) = 0 then (
        (fX12_carrying_2 n) v1 (v2 + (1 : Int32)) w)
      else (
        nw (si w 148 10 v_3) fun w_7 => (
        some (v2, w_7)))) else none)))
  else (
    some ((-1 : Int32), w)))
def fX12_carrying (v1 : Int32) (w : Wd) : Option (Int32 × Wd) :=
  fX12_carrying_2 FU v1 (0 : Int32) w

def fX12_least (v0 : Int32) (v1 : Int32) (w : Wd) : Option Int32 :=
  if v0 < v1 then (
    some v0)
  else (
    some v1)

def fX12_letsOn_119 (v1 : Int32) (v3 : Int32) (w : Wd) : Option Wd :=
  if inb v1 100 = true then (
  if (ri w 156 v1) = (-1 : Int32) then (
    some w)
  else (
    (fX12_c v1 (9 : Int32) w).bind fun v_3 => (
    (fX12_least v_3 v3 w).bind fun v_4 => (
    nw (wi w 154 v1 v_4) fun w_5 => (
    (fX12_c v1 (10 : Int32) w_5).bind fun v_6 => (
    (fX12_least v_6 (v3 - (ri w_5 154 v1)) w_5).bind fun v_7 => (
    nw (wi w_5 155 v1 v_7) fun w_8 => (
    if inb (((15 : Int32) * v1) + (9 : Int32)) 4340 = true then (
    nw (wi w_8 149 (((15 : Int32) * v1) + (9 : Int32)) ((ri w_8 149 (((15 : Int32) * v1) + (9 : Int32))) - (ri w_8 154 v1))) fun w_10 => (
    if inb (((15 : Int32) * v1) + (10 : Int32)) 4340 = true then (
    nw (wi w_10 149 (((15 : Int32) * v1) + (10 : Int32)) ((ri w_10 149 (((15 : Int32) * v1) + (10 : Int32))) - (ri w_10 155 v1))) fun w_12 => (
    some w_12)) else none)) else none)))))))) else none
def fX12_letsOn_87 (v1 : Int32) (w : Wd) : Option Wd :=
  (fX12_c v1 (6 : Int32) w).bind fun v_1 => (
  if inb v1 100 = true then (
  nw (wi w 156 v1 v_1) fun w_3 => (
  (fX12_c v1 (8 : Int32) w_3).bind fun v_4 => (
  (fX12_c v1 (8 : Int32) w_3).bind fun v_5 => (
  fX12_letsOn_119 v1 (((20 : Int32) * v_4) * v_5) w_3)))) else none)
def fX12_letsOn (v1 : Int32) (w : Wd) : Option Wd :=
  if inb v1 100 = true then (
  nw (wi w 156 v1 (-1 : Int32)) fun w_2 => (
  (fX12_h v1 (0 : Int32) w_2).bind fun v_3 => (
  if v_3 = 0 then (
    (fX12_carrying v1 w_2).bind fun v_5 => (
    if v_5.1 = (-1 : Int32) then (
      fX12_letsOn_87 v1 v_5.2)
    else (
      (fX12_l v_5.1 (0 : Int32) v_5.2).bind fun v_7 => (
      if (v_5.2.1 148 10) < (v_7 - (1 : Int32)) then (
        (fX12_spot v_5.1 ((v_5.2.1 148 10) + (1 : Int32)) v_5.2).bind fun v_9 => (
        if inb (v_9 + (0 : Int32)) 4340 = true then (
        nw (wi v_5.2 156 v1 (ri v_5.2 149 (v_9 + (0 : Int32)))) fun w_11 => (
        (fX12_l v_5.1 (1 : Int32) w_11).bind fun v_12 => (
        (fX12_l v_5.1 (1 : Int32) w_11).bind fun v_13 => (
        fX12_letsOn_119 v1 (((30 : Int32) * v_12) * v_13) w_11)))) else none))
      else (
        fX12_letsOn_87 v1 v_5.2)))))
  else (
    some w_2)))) else none

def fX12_lifts (v1 : Int32) (w : Wd) : Option Wd :=
  if inb (((1500 : Int32) + ((10 : Int32) * v1)) + (0 : Int32)) 4340 = true then (
  if (ri w 149 (((1500 : Int32) + ((10 : Int32) * v1)) + (0 : Int32))) = (1 : Int32) then (
    if inb (((1500 : Int32) + ((10 : Int32) * v1)) + (4 : Int32)) 4340 = true then (
    if (ri w 149 (((1500 : Int32) + ((10 : Int32) * v1)) + (4 : Int32))) = (1 : Int32) then (
      some w)
    else (
      if inb (((1500 : Int32) + ((10 : Int32) * v1)) + (2 : Int32)) 4340 = true then (
      if inb (((1500 : Int32) + ((10 : Int32) * v1)) + (3 : Int32)) 4340 = true then (
      (fX12_least (ri w 149 (((1500 : Int32) + ((10 : Int32) * v1)) + (2 : Int32))) ((100 : Int32) * (ri w 149 (((1500 : Int32) + ((10 : Int32) * v1)) + (3 : Int32)))) w).bind fun v_7 => (
      (fX12_c v1 (9 : Int32) w).bind fun v_8 => (
      (fX12_least v_8 v_7 w).bind fun v_9 => (
      (fX12_c v1 (10 : Int32) w).bind fun v_10 => (
      (fX12_least v_10 (v_7 - v_9) w).bind fun v_11 => (
      if inb (((15 : Int32) * v1) + (9 : Int32)) 4340 = true then (
      nw (wi w 149 (((15 : Int32) * v1) + (9 : Int32)) ((ri w 149 (((15 : Int32) * v1) + (9 : Int32))) - v_9)) fun w_13 => (
      if inb (((15 : Int32) * v1) + (10 : Int32)) 4340 = true then (
      nw (wi w_13 149 (((15 : Int32) * v1) + (10 : Int32)) ((ri w_13 149 (((15 : Int32) * v1) + (10 : Int32))) - v_11)) fun w_15 => (
      nw (wi w_15 149 (((1500 : Int32) + ((10 : Int32) * v1)) + (3 : Int32)) ((ri w_15 149 (((1500 : Int32) + ((10 : Int32) * v1)) + (3 : Int32))) - (((v_9 + v_11) + (99 : Int32)) / (100 : Int32)))) fun w_16 => (
      if inb (((1500 : Int32) + ((10 : Int32) * v1)) + (1 : Int32)) 4340 = true then (
      (fX12_comes (ri w_16 149 (((1500 : Int32) + ((10 : Int32) * v1)) + (1 : Int32))) v_9 v_11 w_16).bind fun v_18 => (
      some v_18)) else none))) else none)) else none)))))) else none) else none)) else none)
  else (
    some w)) else none

def fX12_lookAtLines_2 : Nat → Int32 → Wd → Option Wd
  | 0, _, _ => none
  | n + 1, v1, w =>
  (fX12_g (15 : Int32) w).bind fun v_1 => (
  if v1 < v_1 then (
    (fX12_isCarrying v1 w).bind fun v_3 => (
    if inb v1 8 = true then (
    nw (wi w 153 v1 (vp_nar .boolean (bI v_3))) fun w_5 => (
    (fX12_lookAtLines_2 n) (v1 + (1 : Int32)) w_5)) else none))
  else (
    some w))
def fX12_lookAtLines (w : Wd) : Option Wd :=
  fX12_lookAtLines_2 FU (0 : Int32) w

def fX12_outs (v1 : Int32) (w : Wd) : Option Wd :=
  if inb (((1500 : Int32) + ((10 : Int32) * v1)) + (0 : Int32)) 4340 = true then (
  if (ri w 149 (((1500 : Int32) + ((10 : Int32) * v1)) + (0 : Int32))) = (2 : Int32) then (
    if inb (((1500 : Int32) + ((10 : Int32) * v1)) + (5 : Int32)) 4340 = true then (
    if inb (((1500 : Int32) + ((10 : Int32) * v1)) + (8 : Int32)) 4340 = true then (
    if inb (((1500 : Int32) + ((10 : Int32) * v1)) + (9 : Int32)) 4340 = true then (
    (fX12_c v1 (9 : Int32) w).bind fun v_6 => (
    (fX12_least v_6 (((ri w 149 (((1500 : Int32) + ((10 : Int32) * v1)) + (5 : Int32))) - (ri w 149 (((1500 : Int32) + ((10 : Int32) * v1)) + (8 : Int32)))) - (ri w 149 (((1500 : Int32) + ((10 : Int32) * v1)) + (9 : Int32)))) w).bind fun v_7 => (
    (fX12_c v1 (10 : Int32) w).bind fun v_8 => (
    (fX12_least v_8 ((((ri w 149 (((1500 : Int32) + ((10 : Int32) * v1)) + (5 : Int32))) - (ri w 149 (((1500 : Int32) + ((10 : Int32) * v1)) + (8 : Int32)))) - (ri w 149 (((1500 : Int32) + ((10 : Int32) * v1)) + (9 : Int32)))) - v_7) w).bind fun v_9 => (
    if inb (((15 : Int32) * v1) + (9 : Int32)) 4340 = true then (
    nw (wi w 149 (((15 : Int32) * v1) + (9 : Int32)) ((ri w 149 (((15 : Int32) * v1) + (9 : Int32))) - v_7)) fun w_11 => (
    if inb (((15 : Int32) * v1) + (10 : Int32)) 4340 = true then (
    nw (wi w_11 149 (((15 : Int32) * v1) + (10 : Int32)) ((ri w_11 149 (((15 : Int32) * v1) + (10 : Int32))) - v_9)) fun w_13 => (
    nw (wi w_13 149 (((1500 : Int32) + ((10 : Int32) * v1)) + (8 : Int32)) ((ri w_13 149 (((1500 : Int32) + ((10 : Int32) * v1)) + (8 : Int32))) + v_7)) fun w_14 => (
    nw (wi w_14 149 (((1500 : Int32) + ((10 : Int32) * v1)) + (9 : Int32)) ((ri w_14 149 (((1500 : Int32) + ((10 : Int32) * v1)) + (9 : Int32))) + v_9)) fun w_15 => (
    (fX12_isHeld (2 : Int32) v1 w_15).bind fun v_16 => (
    if v_16.1 = true then (
      (fX12_g (0 : Int32) v_16.2).bind fun v_18 => (
      (fX12_levelAt v_18 v_16.2).bind fun v_19 => (
      if inb (((1500 : Int32) + ((10 : Int32) * v1)) + (7 : Int32)) 4340 = true then (
      if v_19 < (ri v_16.2 149 (((1500 : Int32) + ((10 : Int32) * v1)) + (7 : Int32))) then (
        if inb (((1500 : Int32) + ((10 : Int32) * v1)) + (6 : Int32)) 4340 = true then (
        (fX12_least (ri v_16.2 149 (((1500 : Int32) + ((10 : Int32) * v1)) + (8 : Int32))) (ri v_16.2 149 (((1500 : Int32) + ((10 : Int32) * v1)) + (6 : Int32))) v_16.2).bind fun v_23 => (
        (fX12_least (ri v_16.2 149 (((1500 : Int32) + ((10 : Int32) * v1)) + (9 : Int32))) ((ri v_16.2 149 (((1500 : Int32) + ((10 : Int32) * v1)) + (6 : Int32))) - v_23) v_16.2).bind fun v_24 => (
        nw (wi v_16.2 149 (((1500 : Int32) + ((10 : Int32) * v1)) + (8 : Int32)) ((ri v_16.2 149 (((1500 : Int32) + ((10 : Int32) * v1)) + (8 : Int32))) - v_23)) fun w_25 => (
        nw (wi w_25 149 (((1500 : Int32) + ((10 : Int32) * v1)) + (9 : Int32)) ((ri w_25 149 (((1500 : Int32) + ((10 : Int32) * v1)) + (9 : Int32))) - v_24)) fun w_26 => (
        nw (wi w_26 149 (4308 : Int32) ((ri w_26 149 (4308 : Int32)) + v_24)) fun w_27 => (
        (fX12_g (0 : Int32) w_27).bind fun v_28 => (
        (fX12_isBack v_28 w_27).bind fun v_29 => (
        if v_29 = true then (
          nw (wi w_27 149 (4310 : Int32) ((ri w_27 149 (4310 : Int32)) + v_23)) fun w_31 => (
          some w_31))
        else (
          nw (wi w_27 149 (4309 : Int32) ((ri w_27 149 (4309 : Int32)) + v_23)) fun w_32 => (
          some w_32)))))))))) else none)
      else (
        some v_16.2)) else none)))
    else (
      some v_16.2)))))) else none)) else none))))) else none) else none) else none)
  else (
    some w)) else none

def fX12_hold (v1 : Int32) (w : Wd) : Option (Int32 × Wd) :=
  (fX12_carrying v1 w).bind fun v_1 => (
  (fX12_c v1 (8 : Int32) v_1.2).bind fun v_2 => (
  if v_1.1 = (-1 : Int32) then (
    some ((((50 : Int32) + ((40 : Int32) * v_2)) + (0 : Int32)), v_1.2))
  else (
    (fX12_l v_1.1 (1 : Int32) v_1.2).bind fun v_4 => (
    some ((((50 : Int32) + ((40 : Int32) * v_2)) + ((60 : Int32) * v_4)), v_1.2)))))

def fX12_rises (v1 : Int32) (w : Wd) : Option Wd :=
  (fX12_c v1 (9 : Int32) w).bind fun v_1 => (
  (fX12_c v1 (10 : Int32) w).bind fun v_2 => (
  (fX12_hold v1 w).bind fun v_3 => (
  if 0 < ((v_1 + v_2) - v_3.1) then (
    (fX12_c v1 (10 : Int32) v_3.2).bind fun v_5 => (
    (fX12_least v_5 ((v_1 + v_2) - v_3.1) v_3.2).bind fun v_6 => (
    if inb (((15 : Int32) * v1) + (10 : Int32)) 4340 = true then (
    nw (wi v_3.2 149 (((15 : Int32) * v1) + (10 : Int32)) ((ri v_3.2 149 (((15 : Int32) * v1) + (10 : Int32))) - v_6)) fun w_8 => (
    if inb (((15 : Int32) * v1) + (12 : Int32)) 4340 = true then (
    nw (wi w_8 149 (((15 : Int32) * v1) + (12 : Int32)) ((ri w_8 149 (((15 : Int32) * v1) + (12 : Int32))) + v_6)) fun w_10 => (
    if inb (((15 : Int32) * v1) + (9 : Int32)) 4340 = true then (
    nw (wi w_10 149 (((15 : Int32) * v1) + (9 : Int32)) ((ri w_10 149 (((15 : Int32) * v1) + (9 : Int32))) - (((v_1 + v_2) - v_3.1) - v_6))) fun w_12 => (
    if inb (((15 : Int32) * v1) + (11 : Int32)) 4340 = true then (
    nw (wi w_12 149 (((15 : Int32) * v1) + (11 : Int32)) ((ri w_12 149 (((15 : Int32) * v1) + (11 : Int32))) + (((v_1 + v_2) - v_3.1) - v_6))) fun w_14 => (
    some w_14)) else none)) else none)) else none)) else none)))
  else (
    (fX12_least (-((v_1 + v_2) - v_3.1)) (5 : Int32) v_3.2).bind fun v_15 => (
    (fX12_c v1 (11 : Int32) v_3.2).bind fun v_16 => (
    (fX12_least v_16 v_15 v_3.2).bind fun v_17 => (
    (fX12_c v1 (12 : Int32) v_3.2).bind fun v_18 => (
    (fX12_least v_18 (v_15 - v_17) v_3.2).bind fun v_19 => (
    if inb (((15 : Int32) * v1) + (11 : Int32)) 4340 = true then (
    nw (wi v_3.2 149 (((15 : Int32) * v1) + (11 : Int32)) ((ri v_3.2 149 (((15 : Int32) * v1) + (11 : Int32))) - v_17)) fun w_21 => (
    if inb (((15 : Int32) * v1) + (12 : Int32)) 4340 = true then (
    nw (wi w_21 149 (((15 : Int32) * v1) + (12 : Int32)) ((ri w_21 149 (((15 : Int32) * v1) + (12 : Int32))) - v_19)) fun w_23 => (
    if inb (((15 : Int32) * v1) + (9 : Int32)) 4340 = true then (
    nw (wi w_23 149 (((15 : Int32) * v1) + (9 : Int32)) ((ri w_23 149 (((15 : Int32) * v1) + (9 : Int32))) + v_17)) fun w_25 => (
    if inb (((15 : Int32) * v1) + (10 : Int32)) 4340 = true then (
    nw (wi w_25 149 (((15 : Int32) * v1) + (10 : Int32)) ((ri w_25 149 (((15 : Int32) * v1) + (10 : Int32))) + v_19)) fun w_27 => (
    some w_27)) else none)) else none)) else none)) else none)))))))))

def fX12_pulls (v1 : Int32) (v2 : Int32) (w : Wd) : Option Wd :=
  (fX12_c v1 (2 : Int32) w).bind fun v_1 => (
  if v_1 = 0 then (
    some w)
  else (
    (fX12_c v1 (3 : Int32) w).bind fun v_3 => (
    if v_3 < v2 then (
      (fX12_c v1 (13 : Int32) w).bind fun v_5 => (
      if v_5 = (1 : Int32) then (
        some w)
      else (
        if inb (((15 : Int32) * v1) + (13 : Int32)) 4340 = true then (
        nw (wi w 149 (((15 : Int32) * v1) + (13 : Int32)) (1 : Int32)) fun w_8 => (
        (fX12_c v1 (2 : Int32) w_8).bind fun v_9 => (
        (fX12_c v1 (3 : Int32) w_8).bind fun v_10 => (
        (fX12_isHeld (1 : Int32) v1 w_8).bind fun v_11 => (
        if v_11.1 = true then (
          nw (wi v_11.2 149 (4312 : Int32) ((ri v_11.2 149 (4312 : Int32)) + (v_9 * (v2 - v_10)))) fun w_13 => (
          some w_13))
        else (
          nw (wi v_11.2 149 (4313 : Int32) ((ri v_11.2 149 (4313 : Int32)) + (v_9 * (v2 - v_10)))) fun w_14 => (
          some w_14))))))) else none)))
    else (
      some w))))

def fX12_work_153 : Nat → Int32 → Int32 → Int32 → Wd → Option Wd
  | 0, _, _, _, _ => none
  | n + 1, v5, v7, v8, w =>
  if v8 < (4 : Int32) then (
    (fX12_beside v5 v8 w).bind fun v_2 => (
    if v_2 = (-1 : Int32) then (
      (fX12_work_153 n) v5 v7 (v8 + (1 : Int32)) w)
    else (
      (fX12_beside v5 v8 w).bind fun v_4 => (
      (fX12_pulls v_4 (v7 / (4 : Int32)) w).bind fun v_5 => (
      (fX12_work_153 n) v5 v7 (v8 + (1 : Int32)) v_5)))))
  else (
    some w)
def fX12_work_288 (s1 : Int32) (s2 : Int32) (w : Wd) : Option Wd :=
  if inb s1 4340 = true then (
  nw (wi w 149 s1 s2) fun w_2 => (
  some w_2)) else none
def fX12_work_20 (v1 : Int32) (v2 : Int32) (s0 : Int32) (w : Wd) : Option Wd :=
  if s0 = (-1 : Int32) then (
    some w)
  else (
    (fX12_spot v1 s0 w).bind fun v_2 => (
    if inb (v_2 + (0 : Int32)) 4340 = true then (
    (fX12_isHeld (0 : Int32) (ri w 149 (v_2 + (0 : Int32))) w).bind fun v_4 => (
    if v_4.1 = true then (
      (fX12_digAt v_2 v_4.2).bind fun v_6 => (
      if inb (v_2 + (2 : Int32)) 4340 = true then (
      if (ri v_4.2 149 (v_2 + (2 : Int32))) < v_6 then (
        nw (wi v_4.2 149 (v_2 + (2 : Int32)) ((ri v_4.2 149 (v_2 + (2 : Int32))) + ((40 : Int32) * v2))) fun w_9 => (
        if (ri w_9 149 (v_2 + (2 : Int32))) < v_6 then (
          some w_9)
        else (
          (fX12_depthAt v_2 w_9).bind fun v_11 => (
          (fX12_c (ri w 149 (v_2 + (0 : Int32))) (1 : Int32) w_9).bind fun v_12 => (
          (fX12_pulls (ri w 149 (v_2 + (0 : Int32))) ((v_11 * ((1 : Int32) + v_12)) / (2 : Int32)) w_9).bind fun v_13 => (
          fX12_work_153 FU (ri w 149 (v_2 + (0 : Int32))) (v_11 * ((1 : Int32) + v_12)) (0 : Int32) v_13))))))
      else (
        (fX12_g (1 : Int32) v_4.2).bind fun v_14 => (
        (fX12_l v1 (1 : Int32) v_4.2).bind fun v_15 => (
        if v_14 < ((100 : Int32) * v_15) then (
          nw (wi v_4.2 149 (4311 : Int32) ((ri v_4.2 149 (4311 : Int32)) + v2)) fun w_17 => (
          some w_17))
        else (
          (fX12_l v1 (1 : Int32) v_4.2).bind fun v_18 => (
          nw (wi v_4.2 149 (4301 : Int32) ((ri v_4.2 149 (4301 : Int32)) - ((100 : Int32) * v_18))) fun w_19 => (
          (fX12_day w_19).bind fun v_20 => (
          if inb (v_2 + (3 : Int32)) 4340 = true then (
          nw (wi w_19 149 (v_2 + (3 : Int32)) v_20) fun w_22 => (
          (fX12_c (ri w 149 (v_2 + (0 : Int32))) (9 : Int32) w_22).bind fun v_23 => (
          (fX12_c (ri w 149 (v_2 + (0 : Int32))) (10 : Int32) w_22).bind fun v_24 => (
          if 0 < (v_23 + v_24) then (
            fX12_work_288 (v_2 + (4 : Int32)) (1 : Int32) w_22)
          else (
            fX12_work_288 (v_2 + (4 : Int32)) (0 : Int32) w_22))))) else none)))))))) else none))
    else (
      nw (wi v_4.2 149 (4311 : Int32) ((ri v_4.2 149 (4311 : Int32)) + v2)) fun w_26 => (
      some w_26)))) else none))
def fX12_work (v1 : Int32) (w : Wd) : Option Wd :=
  (fX12_l v1 (3 : Int32) w).bind fun v_1 => (
  if 0 < v_1 then (
    (fX12_inWork v1 w).bind fun v_3 => (
    fX12_work_20 v1 v_1 v_3 w))
  else (
    fX12_work_20 v1 v_1 (-1 : Int32) w))

def fX12_hour_298 : Nat → Int32 → Wd → Option Wd
  | 0, _, _ => none
  | n + 1, v1, w =>
  if v1 < (100 : Int32) then (
    (fX12_drinks v1 w).bind fun v_2 => (
    (fX12_hour_298 n) (v1 + (1 : Int32)) v_2))
  else (
    some w)
def fX12_hour_275 : Nat → Int32 → Wd → Option Wd
  | 0, _, _ => none
  | n + 1, v1, w =>
  (fX12_g (15 : Int32) w).bind fun v_1 => (
  if v1 < v_1 then (
    (fX12_work v1 w).bind fun v_3 => (
    (fX12_hour_275 n) (v1 + (1 : Int32)) v_3))
  else (
    fX12_hour_298 FU (0 : Int32) w))
def fX12_hour_228 : Nat → Int32 → Wd → Option Wd
  | 0, _, _ => none
  | n + 1, v1, w =>
  if v1 < (100 : Int32) then (
    (fX12_rises v1 w).bind fun v_2 => (
    (fX12_hour_228 n) (v1 + (1 : Int32)) v_2))
  else (
    (fX12_g (0 : Int32) w).bind fun v_3 => (
    if (jrm v_3 (24 : Int32)) = 0 then (
      (fX12_g (2 : Int32) w).bind fun v_5 => (
      nw (wi w 149 (4301 : Int32) ((ri w 149 (4301 : Int32)) + v_5)) fun w_6 => (
      fX12_hour_275 FU (0 : Int32) w_6)))
    else (
      some w)))
def fX12_hour_209 : Nat → Int32 → Wd → Option Wd
  | 0, _, _ => none
  | n + 1, v1, w =>
  if v1 < (100 : Int32) then (
    (fX12_outs v1 w).bind fun v_2 => (
    (fX12_hour_209 n) (v1 + (1 : Int32)) v_2))
  else (
    fX12_hour_228 FU (0 : Int32) w)
def fX12_hour_190 : Nat → Int32 → Wd → Option Wd
  | 0, _, _ => none
  | n + 1, v1, w =>
  if v1 < (100 : Int32) then (
    (fX12_lifts v1 w).bind fun v_2 => (
    (fX12_hour_190 n) (v1 + (1 : Int32)) v_2))
  else (
    fX12_hour_209 FU (0 : Int32) w)
def fX12_hour_144 : Nat → Int32 → Wd → Option Wd
  | 0, _, _ => none
  | n + 1, v1, w =>
  if v1 < (100 : Int32) then (
    if inb v1 100 = true then (
    if (ri w 156 v1) = (-1 : Int32) then (
      (fX12_hour_144 n) (v1 + (1 : Int32)) w)
    else (
      (fX12_comes (ri w 156 v1) (ri w 154 v1) (ri w 155 v1) w).bind fun v_4 => (
      (fX12_hour_144 n) (v1 + (1 : Int32)) v_4))) else none)
  else (
    fX12_hour_190 FU (0 : Int32) w)
def fX12_hour_125 : Nat → Int32 → Wd → Option Wd
  | 0, _, _ => none
  | n + 1, v1, w =>
  if v1 < (100 : Int32) then (
    (fX12_letsOn v1 w).bind fun v_2 => (
    (fX12_hour_125 n) (v1 + (1 : Int32)) v_2))
  else (
    fX12_hour_144 FU (0 : Int32) w)
def fX12_hour_14 : Nat → Int32 → Wd → Option Wd
  | 0, _, _ => none
  | n + 1, v1, w =>
  if v1 < (100 : Int32) then (
    (fX12_c v1 (4 : Int32) w).bind fun v_2 => (
    if v_2 = (1 : Int32) then (
      (fX12_hour_14 n) (v1 + (1 : Int32)) w)
    else (
      if inb (((15 : Int32) * v1) + (9 : Int32)) 4340 = true then (
      (fX12_c v1 (2 : Int32) w).bind fun v_5 => (
      nw (wi w 149 (((15 : Int32) * v1) + (9 : Int32)) ((ri w 149 (((15 : Int32) * v1) + (9 : Int32))) + (v_5 / (100 : Int32)))) fun w_6 => (
      if inb (((15 : Int32) * v1) + (10 : Int32)) 4340 = true then (
      (fX12_g (3 : Int32) w_6).bind fun v_8 => (
      nw (wi w_6 149 (((15 : Int32) * v1) + (10 : Int32)) ((ri w_6 149 (((15 : Int32) * v1) + (10 : Int32))) + v_8)) fun w_9 => (
      (fX12_c v1 (2 : Int32) w_9).bind fun v_10 => (
      nw (wi w_9 149 (4305 : Int32) ((ri w_9 149 (4305 : Int32)) + (v_10 / (100 : Int32)))) fun w_11 => (
      (fX12_g (3 : Int32) w_11).bind fun v_12 => (
      nw (wi w_11 149 (4306 : Int32) ((ri w_11 149 (4306 : Int32)) + v_12)) fun w_13 => (
      (fX12_hour_14 n) (v1 + (1 : Int32)) w_13))))))) else none))) else none)))
  else (
    (fX12_lookAtLines w).bind fun v_14 => (
    fX12_hour_125 FU (0 : Int32) v_14))
def fX12_hour (w : Wd) : Option Wd :=
  nw (wi w 149 (4300 : Int32) ((ri w 149 (4300 : Int32)) + (1 : Int32))) fun w_1 => (
  fX12_hour_14 FU (0 : Int32) w_1)

def fX12_hours_36 : Nat → Int32 → Int32 → Wd → Option (Int32 × Wd)
  | 0, _, _, _ => none
  | n + 1, v1, v2, w =>
  if v2 < v1 then (
    (fX12_hour w).bind fun v_2 => (
    (fX12_hours_36 n) v1 (v2 + (1 : Int32)) v_2))
  else (
    (fX12_g (0 : Int32) w).bind fun v_3 => (
    some (v_3, w)))
def fX12_hours (v1 : Int32) (w : Wd) : Option (Int32 × Wd) :=
  nw (si w 148 0 (0 : Int32)) fun w_1 => (
  (fX12_in v1.toInt64 (1 : Int64) (240 : Int64) w_1).bind fun v_2 => (
  if v_2 = true then (
    (fX12_g (0 : Int32) w_1).bind fun v_4 => (
    if (99999 : Int32) < (v_4 + v1) then (
      some ((-2 : Int32), w_1))
    else (
      fX12_hours_36 FU v1 (0 : Int32) w_1)))
  else (
    some ((-1 : Int32), w_1))))

def fX12_house_88 (s1 : Int32) (s2 : Int32) (w : Wd) : Option (Int32 × Wd) :=
  (fX12_h s1 s2 w).bind fun v_1 => (
  some (v_1, w))
def fX12_house_47 (v1 : Int32) (v2 : Int32) (s0 : Int32) (s1 : Int32) (w : Wd) : Option (Int32 × Wd) :=
  if s0 = s1 then (
    if v2 = 0 then (
      fX12_house_88 v1 (8 : Int32) w)
    else (
      if v2 = (1 : Int32) then (
        fX12_house_88 v1 (9 : Int32) w)
      else (
        if v2 = (2 : Int32) then (
          fX12_house_88 v1 (3 : Int32) w)
        else (
          fX12_house_88 v1 (4 : Int32) w))))
  else (
    nw (si w 148 0 (2 : Int32)) fun w_5 => (
    some ((0 : Int32), w_5)))
def fX12_house_24 (w : Wd) : Option (Int32 × Wd) :=
  nw (si w 148 0 (1 : Int32)) fun w_1 => (
  some ((0 : Int32), w_1))
def fX12_house (v1 : Int32) (v2 : Int32) (w : Wd) : Option (Int32 × Wd) :=
  nw (si w 148 0 (0 : Int32)) fun w_1 => (
  (fX12_isCell v1 w_1).bind fun v_2 => (
  if v_2 = true then (
    (fX12_in v2.toInt64 (0 : Int64) (3 : Int64) w_1).bind fun v_4 => (
    if v_4 = true then (
      (fX12_h v1 (0 : Int32) w_1).bind fun v_6 => (
      if v2 < (2 : Int32) then (
        fX12_house_47 v1 v2 v_6 (2 : Int32) w_1)
      else (
        fX12_house_47 v1 v2 v_6 (1 : Int32) w_1)))
    else (
      fX12_house_24 w_1)))
  else (
    fX12_house_24 w_1)))

def fX12_inForce (v1 : Int32) (v2 : Int32) (w : Wd) : Option (Int32 × Wd) :=
  nw (si w 148 0 (0 : Int32)) fun w_1 => (
  (fX12_in v1.toInt64 (0 : Int64) (2 : Int64) w_1).bind fun v_2 => (
  if v_2 = true then (
    (fX12_in v2.toInt64 (0 : Int64) (4999 : Int64) w_1).bind fun v_4 => (
    if v_4 = true then (
      (fX12_forceOf v1 v2 w_1).bind fun v_6 => (
      if v_6 = (-1 : Int32) then (
        some ((-9 : Int32), w_1))
      else (
        some (v_6, w_1))))
    else (
      some ((-1 : Int32), w_1))))
  else (
    some ((-1 : Int32), w_1))))

def fX12_judge_112 (k64 : Int32 → Int32 → Int32 → Int32 → Wd → Option (Int32 × Wd)) (v1 : Int32) (v2 : Int32) (v4 : Int32) (s0 : Int32) (s1 : Int32) (w : Wd) : Option (Int32 × Wd) :=
  (fX12_costOf (s0 ||| s1) w).bind fun v_1 => (
  if v2 < v_1 then (
    some (((-100 : Int32) - v4), w))
  else (
    k64 v1 v2 (s0 ||| s1) (v4 + (1 : Int32)) w))
def fX12_judge_135 (v1 : Int32) (v3 : Int32) (w : Wd) : Option (Int32 × Wd) :=
  if inb v1 6 = true then (
  (fX12_g (15 : Int32) w).bind fun v_2 => (
  if (ri w 166 v1) < v_2 then (
    (fX12_host (-13 : Int32) w).bind fun v_4 => (
    some (v_4.1, v_4.2)))
  else (
    (fX12_fouledBy v3 w).bind fun v_5 => (
    some (v_5.1, v_5.2))))) else none
def fX12_judge_64 : Nat → Int32 → Int32 → Int32 → Int32 → Wd → Option (Int32 × Wd)
  | 0, _, _, _, _, _ => none
  | n + 1, v1, v2, v3, v4, w =>
  (fX12_g (15 : Int32) w).bind fun v_1 => (
  if v4 < v_1 then (
    if inb v1 6 = true then (
    if v4 < (ri w 166 v1) then (
      if inb (((100 : Int32) * v1) + v4) 600 = true then (
      if (rl w 167 (((100 : Int32) * v1) + v4)) = (0 : Int64) then (
        fX12_judge_112 (fX12_judge_64 n) v1 v2 v4 v3 (0 : Int32) w)
      else (
        fX12_judge_112 (fX12_judge_64 n) v1 v2 v4 v3 ((1 : Int32) <<< (v4 &&& 31)) w)) else none)
    else (
      fX12_judge_135 v1 v3 w)) else none)
  else (
    fX12_judge_135 v1 v3 w))
def fX12_judge (v1 : Int32) (v2 : Int32) (w : Wd) : Option (Int32 × Wd) :=
  nw (si w 148 0 (0 : Int32)) fun w_1 => (
  (fX12_isTape v1 w_1).bind fun v_2 => (
  if v_2 = true then (
    (fX12_in v2.toInt64 (0 : Int64) (9999999 : Int64) w_1).bind fun v_4 => (
    if v_4 = true then (
      if inb v1 6 = true then (
      if (ri w_1 165 v1) = 0 then (
        (fX12_host (-11 : Int32) w_1).bind fun v_8 => (
        some (v_8.1, v_8.2)))
      else (
        if (ri w_1 165 v1) = (5 : Int32) then (
          fX12_judge_64 FU v1 v2 (0 : Int32) (0 : Int32) w_1)
        else (
          (fX12_host (-12 : Int32) w_1).bind fun v_10 => (
          some (v_10.1, v_10.2))))) else none)
    else (
      some ((-1 : Int32), w_1))))
  else (
    some ((-1 : Int32), w_1))))

def fX12_keep_31 : Nat → Int32 → Int32 → Wd → Option (Int32 × Wd)
  | 0, _, _, _ => none
  | n + 1, v1, v2, w =>
  if v2 < (4340 : Int32) then (
    if inb v2 4340 = true then (
    if inb (((4340 : Int32) * v1) + v2) 26040 = true then (
    nw (wi w 168 (((4340 : Int32) * v1) + v2) (ri w 149 v2)) fun w_4 => (
    (fX12_keep_31 n) v1 (v2 + (1 : Int32)) w_4)) else none) else none)
  else (
    (fX12_g (0 : Int32) w).bind fun v_5 => (
    some (v_5, w)))
def fX12_keep (v1 : Int32) (w : Wd) : Option (Int32 × Wd) :=
  nw (si w 148 0 (0 : Int32)) fun w_1 => (
  (fX12_isTape v1 w_1).bind fun v_2 => (
  if v_2 = true then (
    if inb v1 6 = true then (
    nw (wi w_1 165 v1 (6 : Int32)) fun w_5 => (
    nw (wi w_5 166 v1 (0 : Int32)) fun w_6 => (
    fX12_keep_31 FU v1 (0 : Int32) w_6))) else none)
  else (
    some ((-1 : Int32), w_1))))

def fX12_kiln (v1 : Int32) (w : Wd) : Option (Int32 × Wd) :=
  nw (si w 148 0 (0 : Int32)) fun w_1 => (
  (fX12_in v1.toInt64 (0 : Int64) (9999 : Int64) w_1).bind fun v_2 => (
  if v_2 = true then (
    (fX12_g (2 : Int32) w_1).bind fun v_4 => (
    nw (wi w_1 149 (4302 : Int32) v1) fun w_5 => (
    some (v_4, w_5))))
  else (
    some ((-1 : Int32), w_1))))

def fX12_holdOf (v1 : Int32) (w : Wd) : Option (Int32 × Wd) :=
  (fX12_lookAtLines w).bind fun v_1 => (
  (fX12_hold v1 v_1).bind fun v_2 => (
  some (v_2.1, v_2.2)))

def fX12_lasts (v1 : Int32) (v2 : Int32) (w : Wd) : Option (Int32 × Wd) :=
  nw (si w 148 0 (0 : Int32)) fun w_1 => (
  (fX12_isCell v1 w_1).bind fun v_2 => (
  if v_2 = true then (
    if v2 < 0 then (
      some ((-1 : Int32), w_1))
    else (
      (fX12_holdOf v1 w_1).bind fun v_5 => (
      (fX12_c v1 (9 : Int32) v_5.2).bind fun v_6 => (
      (fX12_c v1 (10 : Int32) v_5.2).bind fun v_7 => (
      if 0 < ((v_5.1 - v_6) - v_7) then (
        if v2 = 0 then (
          (fX12_host (-16 : Int32) v_5.2).bind fun v_10 => (
          some (v_10.1, v_10.2)))
        else (
          if v2.toInt64 = 0 then none else (
          some ((((((v_5.1 - v_6) - v_7).toInt64 + v2.toInt64) - (1 : Int64)) / v2.toInt64).toInt32, v_5.2))))
      else (
        some ((0 : Int32), v_5.2)))))))
  else (
    some ((-1 : Int32), w_1))))

def fX12_law_213 : Nat → Int32 → Wd → Option (Int32 × Wd)
  | 0, _, _ => none
  | n + 1, v5, w =>
  if v5 < (w.1 148 23) then (
    if inb v5 100 = true then (
    if inb (((60 : Int32) * (w.1 148 21)) + v5) 1200 = true then (
    nw (wi w 162 (((60 : Int32) * (w.1 148 21)) + v5) (ri w 163 v5)) fun w_4 => (
    (fX12_law_213 n) (v5 + (1 : Int32)) w_4)) else none) else none)
  else (
    nw (si w 148 21 ((w.1 148 21) + (1 : Int32))) fun w_5 => (
    some (((w_5.1 148 21) - (1 : Int32)), w_5)))
def fX12_law_95 : Nat → Int32 → Int32 → Int32 → Int32 → Wd → Option (Int32 × Wd)
  | 0, _, _, _, _, _ => none
  | n + 1, v1, v2, v3, v4, w =>
  if v4 < (w.1 148 23) then (
    if inb (((100 : Int32) * v3) + v4) 600 = true then (
    if inb v4 100 = true then (
    nw (wi w 163 v4 ((rl w 167 (((100 : Int32) * v3) + v4)).toInt32)) fun w_4 => (
    (fX12_law_95 n) v1 v2 v3 (v4 + (1 : Int32)) w_4)) else none) else none)
  else (
    nw (si w 148 27 (0 : Int32)) fun w_5 => (
    (fX12_reads w_5).bind fun v_6 => (
    if (v_6.2.1 148 26) = 0 then (
      if (v_6.2.1 148 21) = (20 : Int32) then (
        some ((-2 : Int32), v_6.2))
      else (
        if (60 : Int32) < (v_6.2.1 148 23) then (
          some ((-2 : Int32), v_6.2))
        else (
          if inb (v_6.2.1 148 21) 20 = true then (
          nw (wi v_6.2 159 (v_6.2.1 148 21) v1) fun w_11 => (
          if inb (w_11.1 148 21) 20 = true then (
          nw (wi w_11 160 (w_11.1 148 21) v2) fun w_13 => (
          if inb (w_13.1 148 21) 20 = true then (
          nw (wi w_13 161 (w_13.1 148 21) (w_13.1 148 23)) fun w_15 => (
          fX12_law_213 FU (0 : Int32) w_15)) else none)) else none)) else none)))
    else (
      some (((-100 : Int32) - (v_6.2.1 148 24)), v_6.2)))))
def fX12_law (v1 : Int32) (v2 : Int32) (v3 : Int32) (w : Wd) : Option (Int32 × Wd) :=
  nw (si w 148 0 (0 : Int32)) fun w_1 => (
  (fX12_in v1.toInt64 (0 : Int64) (2 : Int64) w_1).bind fun v_2 => (
  if v_2 = true then (
    (fX12_in v2.toInt64 (0 : Int64) (4999 : Int64) w_1).bind fun v_4 => (
    if v_4 = true then (
      (fX12_isTape v3 w_1).bind fun v_6 => (
      if v_6 = true then (
        (fX12_day w_1).bind fun v_8 => (
        if v2 < v_8 then (
          some ((-4 : Int32), w_1))
        else (
          if inb v3 6 = true then (
          if (ri w_1 165 v3) = 0 then (
            (fX12_host (-11 : Int32) w_1).bind fun v_12 => (
            some (v_12.1, v_12.2)))
          else (
            if (ri w_1 165 v3) = (1 : Int32) then (
              nw (si w_1 148 23 (ri w_1 166 v3)) fun w_14 => (
              fX12_law_95 FU v1 v2 v3 (0 : Int32) w_14))
            else (
              (fX12_host (-12 : Int32) w_1).bind fun v_15 => (
              some (v_15.1, v_15.2))))) else none)))
      else (
        some ((-1 : Int32), w_1))))
    else (
      some ((-1 : Int32), w_1))))
  else (
    some ((-1 : Int32), w_1))))

def fX12_level (v1 : Int32) (w : Wd) : Option (Int32 × Wd) :=
  nw (si w 148 0 (0 : Int32)) fun w_1 => (
  (fX12_in v1.toInt64 (0 : Int64) (100000 : Int64) w_1).bind fun v_2 => (
  if v_2 = true then (
    (fX12_levelAt v1 w_1).bind fun v_4 => (
    some (v_4, w_1)))
  else (
    nw (si w_1 148 0 (1 : Int32)) fun w_5 => (
    some ((0 : Int32), w_5)))))

def fX12_lift_99 (v1 : Int32) (v2 : Int32) (v3 : Int32) (v4 : Int32) (w : Wd) : Option (Int32 × Wd) :=
  if inb (((1500 : Int32) + ((10 : Int32) * v1)) + (0 : Int32)) 4340 = true then (
  nw (wi w 149 (((1500 : Int32) + ((10 : Int32) * v1)) + (0 : Int32)) (1 : Int32)) fun w_2 => (
  if inb (((1500 : Int32) + ((10 : Int32) * v1)) + (1 : Int32)) 4340 = true then (
  nw (wi w_2 149 (((1500 : Int32) + ((10 : Int32) * v1)) + (1 : Int32)) v2) fun w_4 => (
  if inb (((1500 : Int32) + ((10 : Int32) * v1)) + (2 : Int32)) 4340 = true then (
  nw (wi w_4 149 (((1500 : Int32) + ((10 : Int32) * v1)) + (2 : Int32)) v3) fun w_6 => (
  if inb (((1500 : Int32) + ((10 : Int32) * v1)) + (3 : Int32)) 4340 = true then (
  nw (wi w_6 149 (((1500 : Int32) + ((10 : Int32) * v1)) + (3 : Int32)) v4) fun w_8 => (
  if inb (((1500 : Int32) + ((10 : Int32) * v1)) + (4 : Int32)) 4340 = true then (
  nw (wi w_8 149 (((1500 : Int32) + ((10 : Int32) * v1)) + (4 : Int32)) (0 : Int32)) fun w_10 => (
  some ((0 : Int32), w_10))) else none)) else none)) else none)) else none)) else none
def fX12_lift (v1 : Int32) (v2 : Int32) (v3 : Int32) (v4 : Int32) (w : Wd) : Option (Int32 × Wd) :=
  nw (si w 148 0 (0 : Int32)) fun w_1 => (
  (fX12_isCell v1 w_1).bind fun v_2 => (
  if v_2 = true then (
    (fX12_isCell v2 w_1).bind fun v_4 => (
    if v_4 = true then (
      (fX12_in v3.toInt64 (1 : Int64) (9999 : Int64) w_1).bind fun v_6 => (
      if v_6 = true then (
        (fX12_in v4.toInt64 (0 : Int64) (9999 : Int64) w_1).bind fun v_8 => (
        if v_8 = true then (
          if v2 = v1 then (
            some ((-1 : Int32), w_1))
          else (
            (fX12_h v1 (0 : Int32) w_1).bind fun v_11 => (
            if v_11 = (2 : Int32) then (
              some ((-3 : Int32), w_1))
            else (
              (fX12_h v1 (0 : Int32) w_1).bind fun v_13 => (
              if v_13 = 0 then (
                (fX12_g (17 : Int32) w_1).bind fun v_15 => (
                if v_15 = (12 : Int32) then (
                  some ((-2 : Int32), w_1))
                else (
                  nw (wi w_1 149 (4317 : Int32) ((ri w_1 149 (4317 : Int32)) + (1 : Int32))) fun w_17 => (
                  fX12_lift_99 v1 v2 v3 v4 w_17))))
              else (
                fX12_lift_99 v1 v2 v3 v4 w_1))))))
        else (
          some ((-1 : Int32), w_1))))
      else (
        some ((-1 : Int32), w_1))))
    else (
      some ((-1 : Int32), w_1))))
  else (
    some ((-1 : Int32), w_1))))

def fX12_lineOf_25 (w : Wd) : Option (Int32 × Wd) :=
  nw (si w 148 0 (1 : Int32)) fun w_1 => (
  some ((0 : Int32), w_1))
def fX12_lineOf (v1 : Int32) (v2 : Int32) (v3 : Int32) (w : Wd) : Option (Int32 × Wd) :=
  nw (si w 148 0 (0 : Int32)) fun w_1 => (
  (fX12_isLine v1 w_1).bind fun v_2 => (
  if v_2 = true then (
    (fX12_in v3.toInt64 (0 : Int64) (6 : Int64) w_1).bind fun v_4 => (
    if v_4 = true then (
      (fX12_l v1 (0 : Int32) w_1).bind fun v_6 => (
      (fX12_in v2.toInt64 (0 : Int64) ((v_6 - (1 : Int32)).toInt64) w_1).bind fun v_7 => (
      if v_7 = true then (
        (fX12_spot v1 v2 w_1).bind fun v_9 => (
        if v3 < (2 : Int32) then (
          if inb (v_9 + v3) 4340 = true then (
          some ((ri w_1 149 (v_9 + v3)), w_1)) else none)
        else (
          if v3 = (2 : Int32) then (
            (fX12_digAt v_9 w_1).bind fun v_13 => (
            some (v_13, w_1)))
          else (
            if inb ((v_9 + v3) - (1 : Int32)) 4340 = true then (
            some ((ri w_1 149 ((v_9 + v3) - (1 : Int32))), w_1)) else none))))
      else (
        nw (si w_1 148 0 (2 : Int32)) fun w_15 => (
        some ((0 : Int32), w_15))))))
    else (
      fX12_lineOf_25 w_1)))
  else (
    fX12_lineOf_25 w_1)))

def fX12_isBeside (v0 : Int32) (v1 : Int32) (w : Wd) : Option Bool :=
  (fX12_isCell v1 w).bind fun v_1 => (
  if v_1 = true then (
    (fX12_near v0 v1 w).bind fun v_3 => (
    if v_3 = (1 : Int32) then (
      some true)
    else (
      some false)))
  else (
    some false))

def fX12_map_25 (v1 : Int32) (v2 : Int32) (v3 : Int32) (w : Wd) : Option (Int32 × Wd) :=
  (fX12_in v3.toInt64 (0 : Int64) (300 : Int64) w).bind fun v_1 => (
  if v_1 = true then (
    (fX12_g (16 : Int32) w).bind fun v_3 => (
    if v_3 = (200 : Int32) then (
      some ((-2 : Int32), w))
    else (
      (fX12_tells v1 v2 v3 w).bind fun v_5 => (
      some (v_5.1, v_5.2)))))
  else (
    some ((-1 : Int32), w)))
def fX12_map (v1 : Int32) (v2 : Int32) (v3 : Int32) (w : Wd) : Option (Int32 × Wd) :=
  nw (si w 148 0 (0 : Int32)) fun w_1 => (
  (fX12_isCell v1 w_1).bind fun v_2 => (
  if v_2 = true then (
    if v2 = (-1 : Int32) then (
      fX12_map_25 v1 v2 v3 w_1)
    else (
      (fX12_isBeside v1 v2 w_1).bind fun v_5 => (
      if v_5 = true then (
        fX12_map_25 v1 v2 v3 w_1)
      else (
        some ((-1 : Int32), w_1)))))
  else (
    some ((-1 : Int32), w_1))))

def fX12_mapOf (v1 : Int32) (v2 : Int32) (v3 : Int32) (w : Wd) : Option (Int32 × Wd) :=
  nw (si w 148 0 (0 : Int32)) fun w_1 => (
  (fX12_isCell v1 w_1).bind fun v_2 => (
  if v_2 = true then (
    (fX12_in v2.toInt64 (0 : Int64) (1 : Int64) w_1).bind fun v_4 => (
    if v_4 = true then (
      (fX12_in v3.toInt64 (0 : Int64) (4999 : Int64) w_1).bind fun v_6 => (
      if v_6 = true then (
        (fX12_telling v1 v3 w_1).bind fun v_8 => (
        if v_8 = (-1 : Int32) then (
          some ((-9 : Int32), w_1))
        else (
          if inb ((v_8 + (1 : Int32)) + v2) 4340 = true then (
          some ((ri w_1 149 ((v_8 + (1 : Int32)) + v2)), w_1)) else none)))
      else (
        some ((-1 : Int32), w_1))))
    else (
      some ((-1 : Int32), w_1))))
  else (
    some ((-1 : Int32), w_1))))

def fX12_of (v1 : Int32) (v2 : Int32) (w : Wd) : Option (Int32 × Wd) :=
  nw (si w 148 0 (0 : Int32)) fun w_1 => (
  (fX12_isCell v1 w_1).bind fun v_2 => (
  if v_2 = true then (
    (fX12_in v2.toInt64 (0 : Int64) (16 : Int64) w_1).bind fun v_4 => (
    if v_4 = true then (
      if v2 < (13 : Int32) then (
        (fX12_c v1 v2 w_1).bind fun v_7 => (
        some (v_7, w_1)))
      else (
        if v2 = (13 : Int32) then (
          (fX12_holdOf v1 w_1).bind fun v_9 => (
          some (v_9.1, v_9.2)))
        else (
          if v2 = (14 : Int32) then (
            (fX12_c v1 (13 : Int32) w_1).bind fun v_11 => (
            some (v_11, w_1)))
          else (
            if v2 = (15 : Int32) then (
              (fX12_isShut v1 w_1).bind fun v_13 => (
              if v_13 = true then (
                some ((1 : Int32), w_1))
              else (
                some ((0 : Int32), w_1))))
            else (
              (fX12_c v1 (14 : Int32) w_1).bind fun v_15 => (
              some (v_15, w_1)))))))
    else (
      nw (si w_1 148 0 (2 : Int32)) fun w_16 => (
      some ((0 : Int32), w_16)))))
  else (
    nw (si w_1 148 0 (1 : Int32)) fun w_17 => (
    some ((0 : Int32), w_17)))))

def fX12_old_25 (v1 : Int32) (v2 : Int32) (v3 : Int32) (v4 : Int32) (w : Wd) : Option (Int32 × Wd) :=
  (fX12_in v3.toInt64 (0 : Int64) (300 : Int64) w).bind fun v_1 => (
  if v_1 = true then (
    (fX12_in v4.toInt64 (0 : Int64) (9 : Int64) w).bind fun v_3 => (
    if v_3 = true then (
      if inb (((15 : Int32) * v1) + (6 : Int32)) 4340 = true then (
      nw (wi w 149 (((15 : Int32) * v1) + (6 : Int32)) v2) fun w_6 => (
      if inb (((15 : Int32) * v1) + (7 : Int32)) 4340 = true then (
      nw (wi w_6 149 (((15 : Int32) * v1) + (7 : Int32)) v3) fun w_8 => (
      if inb (((15 : Int32) * v1) + (8 : Int32)) 4340 = true then (
      nw (wi w_8 149 (((15 : Int32) * v1) + (8 : Int32)) v4) fun w_10 => (
      some ((0 : Int32), w_10))) else none)) else none)) else none)
    else (
      some ((-1 : Int32), w))))
  else (
    some ((-1 : Int32), w)))
def fX12_old (v1 : Int32) (v2 : Int32) (v3 : Int32) (v4 : Int32) (w : Wd) : Option (Int32 × Wd) :=
  nw (si w 148 0 (0 : Int32)) fun w_1 => (
  (fX12_isCell v1 w_1).bind fun v_2 => (
  if v_2 = true then (
    if v2 = (-1 : Int32) then (
      fX12_old_25 v1 v2 v3 v4 w_1)
    else (
      (fX12_isBeside v1 v2 w_1).bind fun v_5 => (
      if v_5 = true then (
        fX12_old_25 v1 v2 v3 v4 w_1)
      else (
        some ((-1 : Int32), w_1)))))
  else (
    some ((-1 : Int32), w_1))))

def fX12_out_237 (v1 : Int32) (v5 : Int32) (v7 : Int32) (s0 : Int32) (w : Wd) : Option (Int32 × Wd) :=
  if inb (v5 + (9 : Int32)) 4340 = true then (
  nw (wi w 149 (v5 + (9 : Int32)) ((ri w 149 (v5 + (9 : Int32))) - v7)) fun w_2 => (
  if inb (v5 + (8 : Int32)) 4340 = true then (
  nw (wi w_2 149 (v5 + (8 : Int32)) ((ri w_2 149 (v5 + (8 : Int32))) - s0)) fun w_4 => (
  if inb (((15 : Int32) * v1) + (10 : Int32)) 4340 = true then (
  nw (wi w_4 149 (((15 : Int32) * v1) + (10 : Int32)) ((ri w_4 149 (((15 : Int32) * v1) + (10 : Int32))) + v7)) fun w_6 => (
  if inb (((15 : Int32) * v1) + (9 : Int32)) 4340 = true then (
  nw (wi w_6 149 (((15 : Int32) * v1) + (9 : Int32)) ((ri w_6 149 (((15 : Int32) * v1) + (9 : Int32))) + s0)) fun w_8 => (
  some ((0 : Int32), w_8))) else none)) else none)) else none)) else none
def fX12_out_218 (v1 : Int32) (v5 : Int32) (v6 : Int32) (s0 : Int32) (w : Wd) : Option (Int32 × Wd) :=
  if (v6 - s0) < 0 then (
    fX12_out_237 v1 v5 s0 (0 : Int32) w)
  else (
    fX12_out_237 v1 v5 s0 (v6 - s0) w)
def fX12_out_101 (v1 : Int32) (v2 : Int32) (v3 : Int32) (v4 : Int32) (w : Wd) : Option (Int32 × Wd) :=
  if inb (((1500 : Int32) + ((10 : Int32) * v1)) + (0 : Int32)) 4340 = true then (
  nw (wi w 149 (((1500 : Int32) + ((10 : Int32) * v1)) + (0 : Int32)) (2 : Int32)) fun w_2 => (
  if inb (((1500 : Int32) + ((10 : Int32) * v1)) + (5 : Int32)) 4340 = true then (
  nw (wi w_2 149 (((1500 : Int32) + ((10 : Int32) * v1)) + (5 : Int32)) v2) fun w_4 => (
  if inb (((1500 : Int32) + ((10 : Int32) * v1)) + (6 : Int32)) 4340 = true then (
  nw (wi w_4 149 (((1500 : Int32) + ((10 : Int32) * v1)) + (6 : Int32)) v3) fun w_6 => (
  if inb (((1500 : Int32) + ((10 : Int32) * v1)) + (7 : Int32)) 4340 = true then (
  nw (wi w_6 149 (((1500 : Int32) + ((10 : Int32) * v1)) + (7 : Int32)) v4) fun w_8 => (
  if inb (((1500 : Int32) + ((10 : Int32) * v1)) + (8 : Int32)) 4340 = true then (
  if inb (((1500 : Int32) + ((10 : Int32) * v1)) + (9 : Int32)) 4340 = true then (
  if (((ri w_8 149 (((1500 : Int32) + ((10 : Int32) * v1)) + (8 : Int32))) + (ri w_8 149 (((1500 : Int32) + ((10 : Int32) * v1)) + (9 : Int32)))) - v2) < 0 then (
    fX12_out_218 v1 ((1500 : Int32) + ((10 : Int32) * v1)) (((ri w_8 149 (((1500 : Int32) + ((10 : Int32) * v1)) + (8 : Int32))) + (ri w_8 149 (((1500 : Int32) + ((10 : Int32) * v1)) + (9 : Int32)))) - v2) (0 : Int32) w_8)
  else (
    if (((ri w_8 149 (((1500 : Int32) + ((10 : Int32) * v1)) + (8 : Int32))) + (ri w_8 149 (((1500 : Int32) + ((10 : Int32) * v1)) + (9 : Int32)))) - v2) < (ri w_8 149 (((1500 : Int32) + ((10 : Int32) * v1)) + (9 : Int32))) then (
      fX12_out_218 v1 ((1500 : Int32) + ((10 : Int32) * v1)) (((ri w_8 149 (((1500 : Int32) + ((10 : Int32) * v1)) + (8 : Int32))) + (ri w_8 149 (((1500 : Int32) + ((10 : Int32) * v1)) + (9 : Int32)))) - v2) (((ri w_8 149 (((1500 : Int32) + ((10 : Int32) * v1)) + (8 : Int32))) + (ri w_8 149 (((1500 : Int32) + ((10 : Int32) * v1)) + (9 : Int32)))) - v2) w_8)
    else (
      fX12_out_218 v1 ((1500 : Int32) + ((10 : Int32) * v1)) (((ri w_8 149 (((1500 : Int32) + ((10 : Int32) * v1)) + (8 : Int32))) + (ri w_8 149 (((1500 : Int32) + ((10 : Int32) * v1)) + (9 : Int32)))) - v2) (ri w_8 149 (((1500 : Int32) + ((10 : Int32) * v1)) + (9 : Int32))) w_8))) else none) else none)) else none)) else none)) else none)) else none
def fX12_out (v1 : Int32) (v2 : Int32) (v3 : Int32) (v4 : Int32) (w : Wd) : Option (Int32 × Wd) :=
  nw (si w 148 0 (0 : Int32)) fun w_1 => (
  (fX12_isCell v1 w_1).bind fun v_2 => (
  if v_2 = true then (
    (fX12_in v2.toInt64 (1 : Int64) (9999 : Int64) w_1).bind fun v_4 => (
    if v_4 = true then (
      (fX12_in v3.toInt64 (1 : Int64) (9999 : Int64) w_1).bind fun v_6 => (
      if v_6 = true then (
        (fX12_in v4.toInt64 (-128 : Int64) (127 : Int64) w_1).bind fun v_8 => (
        if v_8 = true then (
          (fX12_h v1 (0 : Int32) w_1).bind fun v_10 => (
          if v_10 = (1 : Int32) then (
            some ((-3 : Int32), w_1))
          else (
            (fX12_h v1 (0 : Int32) w_1).bind fun v_12 => (
            if v_12 = 0 then (
              (fX12_g (17 : Int32) w_1).bind fun v_14 => (
              if v_14 = (12 : Int32) then (
                some ((-2 : Int32), w_1))
              else (
                nw (wi w_1 149 (4317 : Int32) ((ri w_1 149 (4317 : Int32)) + (1 : Int32))) fun w_16 => (
                fX12_out_101 v1 v2 v3 v4 w_16))))
            else (
              fX12_out_101 v1 v2 v3 v4 w_1)))))
        else (
          some ((-1 : Int32), w_1))))
      else (
        some ((-1 : Int32), w_1))))
    else (
      some ((-1 : Int32), w_1))))
  else (
    some ((-1 : Int32), w_1))))

def fX12_put_150 (s1 : Int32) (s2 : Int64) (w : Wd) : Option (Int32 × Wd) :=
  if inb s1 600 = true then (
  nw (wl w 167 s1 s2) fun w_2 => (
  some ((1 : Int32), w_2))) else none
def fX12_put (v1 : Int32) (v2 : Int32) (v3 : Int64) (w : Wd) : Option (Int32 × Wd) :=
  nw (si w 148 0 (0 : Int32)) fun w_1 => (
  (fX12_isTape v1 w_1).bind fun v_2 => (
  if v_2 = true then (
    if inb v1 6 = true then (
    if (ri w_1 165 v1) = 0 then (
      (fX12_host (-11 : Int32) w_1).bind fun v_6 => (
      some (v_6.1, v_6.2)))
    else (
      if (ri w_1 165 v1) = (6 : Int32) then (
        (fX12_host (-12 : Int32) w_1).bind fun v_8 => (
        some (v_8.1, v_8.2)))
      else (
        (fX12_in v2.toInt64 (0 : Int64) (((ri w_1 166 v1) - (1 : Int32)).toInt64) w_1).bind fun v_9 => (
        if v_9 = true then (
          if (ri w_1 165 v1) = (1 : Int32) then (
            fX12_put_150 (((100 : Int32) * v1) + v2) v3.toInt32.toInt8.toInt32.toInt64 w_1)
          else (
            if (ri w_1 165 v1) = (2 : Int32) then (
              fX12_put_150 (((100 : Int32) * v1) + v2) v3.toInt32.toInt16.toInt32.toInt64 w_1)
            else (
              if (ri w_1 165 v1) = (3 : Int32) then (
                fX12_put_150 (((100 : Int32) * v1) + v2) v3.toInt32.toInt64 w_1)
              else (
                if (ri w_1 165 v1) = (4 : Int32) then (
                  fX12_put_150 (((100 : Int32) * v1) + v2) v3 w_1)
                else (
                  if v3 = (0 : Int64) then (
                    fX12_put_150 (((100 : Int32) * v1) + v2) (0 : Int64) w_1)
                  else (
                    fX12_put_150 (((100 : Int32) * v1) + v2) (1 : Int64) w_1))))))
        else (
          (fX12_host (-13 : Int32) w_1).bind fun v_16 => (
          some (v_16.1, v_16.2))))))) else none)
  else (
    some ((-1 : Int32), w_1))))

def fX12_rain (v1 : Int32) (w : Wd) : Option (Int32 × Wd) :=
  nw (si w 148 0 (0 : Int32)) fun w_1 => (
  (fX12_in v1.toInt64 (0 : Int64) (200 : Int64) w_1).bind fun v_2 => (
  if v_2 = true then (
    (fX12_g (3 : Int32) w_1).bind fun v_4 => (
    nw (wi w_1 149 (4303 : Int32) v1) fun w_5 => (
    some (v_4, w_5))))
  else (
    some ((-1 : Int32), w_1))))

def fX12_route_334 (k321 : Int32 → Int32 → Int32 → Int32 → Int32 → Int32 → Int32 → Wd → Option (Int32 × Wd)) : Nat → Int32 → Int32 → Int32 → Int32 → Int32 → Int32 → Int32 → Int32 → Int32 → Wd → Option (Int32 × Wd)
  | 0, _, _, _, _, _, _, _, _, _, _ => none
  | n + 1, v1, v2, v3, v4, v5, v6, v7, v8, v9, w =>
  if v9 < 0 then (
    if inb v7 19 = true then (
    nw (wi w 151 v7 v8) fun w_3 => (
    k321 v1 v2 v3 v4 v5 v8 (v7 + (1 : Int32)) w_3)) else none)
  else (
    (fX12_beside v6 v9 w).bind fun v_4 => (
    if v_4 = (-1 : Int32) then (
      (fX12_route_334 k321 n) v1 v2 v3 v4 v5 v6 v7 v8 (v9 + (-1 : Int32)) w)
    else (
      (fX12_near v_4 v2 w).bind fun v_6 => (
      if v_6 = (v5 - v7) then (
        if inb v_4 100 = true then (
        if (ri w 152 v_4) < (100000000 : Int32) then (
          (fX12_digOf v6 (v3 - (v4 * (v7 - (1 : Int32)))) w).bind fun v_10 => (
          if inb v6 100 = true then (
          if ((ri w 152 v_4) + v_10) = (ri w 152 v6) then (
            (fX12_route_334 k321 n) v1 v2 v3 v4 v5 v6 v7 v_4 (v9 + (-1 : Int32)) w)
          else (
            (fX12_route_334 k321 n) v1 v2 v3 v4 v5 v6 v7 v8 (v9 + (-1 : Int32)) w)) else none))
        else (
          (fX12_route_334 k321 n) v1 v2 v3 v4 v5 v6 v7 v8 (v9 + (-1 : Int32)) w)) else none)
      else (
        (fX12_route_334 k321 n) v1 v2 v3 v4 v5 v6 v7 v8 (v9 + (-1 : Int32)) w)))))
def fX12_route_321 : Nat → Int32 → Int32 → Int32 → Int32 → Int32 → Int32 → Int32 → Wd → Option (Int32 × Wd)
  | 0, _, _, _, _, _, _, _, _ => none
  | n + 1, v1, v2, v3, v4, v5, v6, v7, w =>
  if v5 < v7 then (
    if inb v1 100 = true then (
    some ((ri w 152 v1), w)) else none)
  else (
    fX12_route_334 (fX12_route_321 n) FU v1 v2 v3 v4 v5 v6 v7 (-1 : Int32) (3 : Int32) w)
def fX12_route_164 (k74 : Int32 → Int32 → Int32 → Int32 → Int32 → Int32 → Wd → Option (Int32 × Wd)) (k84 : Int32 → Int32 → Int32 → Int32 → Int32 → Int32 → Int32 → Wd → Option (Int32 × Wd)) : Nat → Int32 → Int32 → Int32 → Int32 → Int32 → Int32 → Int32 → Int32 → Int32 → Wd → Option (Int32 × Wd)
  | 0, _, _, _, _, _, _, _, _, _, _ => none
  | n + 1, v1, v2, v3, v4, v5, v6, v7, v8, v9, w =>
  if v9 < (4 : Int32) then (
    (fX12_beside v7 v9 w).bind fun v_2 => (
    if v_2 = (-1 : Int32) then (
      (fX12_route_164 k74 k84 n) v1 v2 v3 v4 v5 v6 v7 v8 (v9 + (1 : Int32)) w)
    else (
      if 0 < v6 then (
        (fX12_near v_2 v2 w).bind fun v_5 => (
        if v_5 = (v6 - (1 : Int32)) then (
          if inb v_2 100 = true then (
          if (ri w 152 v_2) < v8 then (
            (fX12_route_164 k74 k84 n) v1 v2 v3 v4 v5 v6 v7 (ri w 152 v_2) (v9 + (1 : Int32)) w)
          else (
            (fX12_route_164 k74 k84 n) v1 v2 v3 v4 v5 v6 v7 v8 (v9 + (1 : Int32)) w)) else none)
        else (
          (fX12_route_164 k74 k84 n) v1 v2 v3 v4 v5 v6 v7 v8 (v9 + (1 : Int32)) w)))
      else (
        (fX12_route_164 k74 k84 n) v1 v2 v3 v4 v5 v6 v7 v8 (v9 + (1 : Int32)) w))))
  else (
    if v8 < (100000000 : Int32) then (
      (fX12_digOf v7 (v3 - (v4 * (v5 - v6))) w).bind fun v_10 => (
      if inb v7 100 = true then (
      nw (wi w 152 v7 (v8 + v_10)) fun w_12 => (
      k84 v1 v2 v3 v4 v5 v6 (v7 + (1 : Int32)) w_12)) else none))
    else (
      k84 v1 v2 v3 v4 v5 v6 (v7 + (1 : Int32)) w))
def fX12_route_148 (k74 : Int32 → Int32 → Int32 → Int32 → Int32 → Int32 → Wd → Option (Int32 × Wd)) (k84 : Int32 → Int32 → Int32 → Int32 → Int32 → Int32 → Int32 → Wd → Option (Int32 × Wd)) (v1 : Int32) (v2 : Int32) (v3 : Int32) (v4 : Int32) (v5 : Int32) (v6 : Int32) (v7 : Int32) (w : Wd) : Option (Int32 × Wd) :=
  if v6 = 0 then (
    fX12_route_164 k74 k84 FU v1 v2 v3 v4 v5 v6 v7 (0 : Int32) (0 : Int32) w)
  else (
    fX12_route_164 k74 k84 FU v1 v2 v3 v4 v5 v6 v7 (100000000 : Int32) (0 : Int32) w)
def fX12_route_84 (k74 : Int32 → Int32 → Int32 → Int32 → Int32 → Int32 → Wd → Option (Int32 × Wd)) : Nat → Int32 → Int32 → Int32 → Int32 → Int32 → Int32 → Int32 → Wd → Option (Int32 × Wd)
  | 0, _, _, _, _, _, _, _, _ => none
  | n + 1, v1, v2, v3, v4, v5, v6, v7, w =>
  if v7 < (100 : Int32) then (
    (fX12_near v7 v2 w).bind fun v_2 => (
    if v_2 = v6 then (
      (fX12_near v7 v1 w).bind fun v_4 => (
      if (v_4 + v6) = v5 then (
        if inb v7 100 = true then (
        nw (wi w 152 v7 (100000000 : Int32)) fun w_7 => (
        (fX12_c v7 (4 : Int32) w_7).bind fun v_8 => (
        if v_8 = (1 : Int32) then (
          if v7 = v2 then (
            fX12_route_148 k74 (fX12_route_84 k74 n) v1 v2 v3 v4 v5 v6 v7 w_7)
          else (
            (fX12_route_84 k74 n) v1 v2 v3 v4 v5 v6 (v7 + (1 : Int32)) w_7))
        else (
          fX12_route_148 k74 (fX12_route_84 k74 n) v1 v2 v3 v4 v5 v6 v7 w_7)))) else none)
      else (
        (fX12_route_84 k74 n) v1 v2 v3 v4 v5 v6 (v7 + (1 : Int32)) w)))
    else (
      (fX12_route_84 k74 n) v1 v2 v3 v4 v5 v6 (v7 + (1 : Int32)) w)))
  else (
    k74 v1 v2 v3 v4 v5 (v6 + (1 : Int32)) w)
def fX12_route_74 : Nat → Int32 → Int32 → Int32 → Int32 → Int32 → Int32 → Wd → Option (Int32 × Wd)
  | 0, _, _, _, _, _, _, _ => none
  | n + 1, v1, v2, v3, v4, v5, v6, w =>
  if v5 < v6 then (
    if inb v1 100 = true then (
    if (ri w 152 v1) < (100000000 : Int32) then (
      nw (si w 148 7 v3) fun w_4 => (
      nw (si w_4 148 8 v4) fun w_5 => (
      nw (si w_5 148 6 (v5 + (1 : Int32))) fun w_6 => (
      nw (wi w_6 151 (0 : Int32) v1) fun w_7 => (
      fX12_route_321 FU v1 v2 v3 v4 v5 v1 (1 : Int32) w_7)))))
    else (
      some ((-3 : Int32), w))) else none)
  else (
    fX12_route_84 (fX12_route_74 n) FU v1 v2 v3 v4 v5 v6 (0 : Int32) w)
def fX12_route (v1 : Int32) (v2 : Int32) (v3 : Int32) (v4 : Int32) (w : Wd) : Option (Int32 × Wd) :=
  nw (si w 148 0 (0 : Int32)) fun w_1 => (
  (fX12_isCell v1 w_1).bind fun v_2 => (
  if v_2 = true then (
    (fX12_isCell v2 w_1).bind fun v_4 => (
    if v_4 = true then (
      if v1 = v2 then (
        some ((-1 : Int32), w_1))
      else (
        (fX12_in v3.toInt64 (0 : Int64) (300 : Int64) w_1).bind fun v_7 => (
        if v_7 = true then (
          (fX12_in v4.toInt64 (1 : Int64) (9 : Int64) w_1).bind fun v_9 => (
          if v_9 = true then (
            (fX12_near v1 v2 w_1).bind fun v_11 => (
            if (v3 - (v4 * v_11)) < 0 then (
              some ((-3 : Int32), w_1))
            else (
              fX12_route_74 FU v1 v2 v3 v4 v_11 (0 : Int32) w_1)))
          else (
            some ((-1 : Int32), w_1))))
        else (
          some ((-1 : Int32), w_1)))))
    else (
      some ((-1 : Int32), w_1))))
  else (
    some ((-1 : Int32), w_1))))

def fX12_set_71 (v1 : Int32) (v2 : Int32) (v3 : Int32) (s0 : Int64) (s1 : Int64) (s2 : Int64) (w : Wd) : Option (Int32 × Wd) :=
  (fX12_in s0 s1 s2 w).bind fun v_1 => (
  if v_1 = true then (
    (fX12_c v1 v2 w).bind fun v_3 => (
    if inb (((15 : Int32) * v1) + v2) 4340 = true then (
    nw (wi w 149 (((15 : Int32) * v1) + v2) v3) fun w_5 => (
    some (v_3, w_5))) else none))
  else (
    some ((-1 : Int32), w)))
def fX12_set (v1 : Int32) (v2 : Int32) (v3 : Int32) (w : Wd) : Option (Int32 × Wd) :=
  nw (si w 148 0 (0 : Int32)) fun w_1 => (
  (fX12_isCell v1 w_1).bind fun v_2 => (
  if v_2 = true then (
    (fX12_in v2.toInt64 (0 : Int64) (5 : Int64) w_1).bind fun v_4 => (
    if v_4 = true then (
      if v2 = 0 then (
        fX12_set_71 v1 v2 v3 v3.toInt64 (0 : Int64) (300 : Int64) w_1)
      else (
        if v2 = (1 : Int32) then (
          fX12_set_71 v1 v2 v3 v3.toInt64 (0 : Int64) (3 : Int64) w_1)
        else (
          if v2 = (2 : Int32) then (
            fX12_set_71 v1 v2 v3 v3.toInt64 (0 : Int64) (9999 : Int64) w_1)
          else (
            if v2 = (3 : Int32) then (
              fX12_set_71 v1 v2 v3 v3.toInt64 (0 : Int64) (99 : Int64) w_1)
            else (
              fX12_set_71 v1 v2 v3 v3.toInt64 (0 : Int64) (1 : Int64) w_1)))))
    else (
      some ((-1 : Int32), w_1))))
  else (
    some ((-1 : Int32), w_1))))

def fX12_vestry_4 (w : Wd) : Nat → Int32 → Int32 → Int32 → Option Int32
  | 0, _, _, _ => none
  | n + 1, v1, v2, v3 =>
  if v3 < (10 : Int32) then (
    (fX12_c (((10 : Int32) * v1) + v3) (2 : Int32) w).bind fun v_2 => (
    (fX12_vestry_4 w n) v1 (v2 + v_2) (v3 + (1 : Int32))))
  else (
    some v2)
def fX12_vestry (v1 : Int32) (w : Wd) : Option Int32 :=
  fX12_vestry_4 w FU v1 (0 : Int32) (0 : Int32)

def fX12_share_177 (k128 : Int32 → Int32 → Int64 → Int64 → Int64 → Int32 → Int32 → Wd → Option (Int32 × Wd)) (v1 : Int32) (v2 : Int32) (v3 : Int64) (v5 : Int64) (v7 : Int64) (v10 : Int32) (s0 : Int32) (w : Wd) : Option (Int32 × Wd) :=
  k128 v1 v2 v3 v5 v7 (s0 + (0 : Int32)) (v10 + (1 : Int32)) w
def fX12_share_128 : Nat → Int32 → Int32 → Int64 → Int64 → Int64 → Int32 → Int32 → Wd → Option (Int32 × Wd)
  | 0, _, _, _, _, _, _, _, _ => none
  | n + 1, v1, v2, v3, v5, v7, v9, v10, w =>
  if v10 < (10 : Int32) then (
    (fX12_vestry v10 w).bind fun v_2 => (
    if v3 = 0 then none else (
    if v7 < (lrm (v1.toInt64 * v_2.toInt64) v3) then (
      (fX12_share_128 n) v1 v2 v3 v5 v7 (v9 + (1 : Int32)) (v10 + (1 : Int32)) w)
    else (
      if (lrm (v1.toInt64 * v_2.toInt64) v3) = v7 then (
        if v10 < v2 then (
          (fX12_share_128 n) v1 v2 v3 v5 v7 (v9 + (1 : Int32)) (v10 + (1 : Int32)) w)
        else (
          fX12_share_177 (fX12_share_128 n) v1 v2 v3 v5 v7 v10 v9 w))
      else (
        fX12_share_177 (fX12_share_128 n) v1 v2 v3 v5 v7 v10 v9 w)))))
  else (
    (fX12_vestry v2 w).bind fun v_6 => (
    if v3 = 0 then none else (
    if v9.toInt64 < v5 then (
      some ((((v1.toInt64 * v_6.toInt64) / v3).toInt32 + (1 : Int32)), w))
    else (
      some ((((v1.toInt64 * v_6.toInt64) / v3).toInt32 + (0 : Int32)), w)))))
def fX12_share_79 : Nat → Int32 → Int32 → Int64 → Int64 → Int32 → Wd → Option (Int32 × Wd)
  | 0, _, _, _, _, _, _ => none
  | n + 1, v1, v2, v3, v5, v7, w =>
  if v7 < (10 : Int32) then (
    (fX12_vestry v7 w).bind fun v_2 => (
    if v3 = 0 then none else (
    (fX12_share_79 n) v1 v2 v3 (v5 - ((v1.toInt64 * v_2.toInt64) / v3)) (v7 + (1 : Int32)) w)))
  else (
    (fX12_vestry v2 w).bind fun v_3 => (
    if v3 = 0 then none else (
    fX12_share_128 FU v1 v2 v3 v5 (lrm (v1.toInt64 * v_3.toInt64) v3) (0 : Int32) (0 : Int32) w)))
def fX12_share_36 : Nat → Int32 → Int32 → Int64 → Int32 → Wd → Option (Int32 × Wd)
  | 0, _, _, _, _, _ => none
  | n + 1, v1, v2, v3, v5, w =>
  if v5 < (10 : Int32) then (
    (fX12_vestry v5 w).bind fun v_2 => (
    (fX12_share_36 n) v1 v2 (v3 + v_2.toInt64) (v5 + (1 : Int32)) w))
  else (
    if v3 = (0 : Int64) then (
      (fX12_host (-16 : Int32) w).bind fun v_4 => (
      some (v_4.1, v_4.2)))
    else (
      fX12_share_79 FU v1 v2 v3 v1.toInt64 (0 : Int32) w))
def fX12_share (v1 : Int32) (v2 : Int32) (w : Wd) : Option (Int32 × Wd) :=
  nw (si w 148 0 (0 : Int32)) fun w_1 => (
  (fX12_in v1.toInt64 (0 : Int64) (9999999 : Int64) w_1).bind fun v_2 => (
  if v_2 = true then (
    (fX12_in v2.toInt64 (0 : Int64) (9 : Int64) w_1).bind fun v_4 => (
    if v_4 = true then (
      fX12_share_36 FU v1 v2 (0 : Int64) (0 : Int32) w_1)
    else (
      some ((-1 : Int32), w_1))))
  else (
    some ((-1 : Int32), w_1))))

def fX12_size (v1 : Int32) (w : Wd) : Option (Int32 × Wd) :=
  nw (si w 148 0 (0 : Int32)) fun w_1 => (
  (fX12_isLine v1 w_1).bind fun v_2 => (
  if v_2 = true then (
    (fX12_l v1 (0 : Int32) w_1).bind fun v_4 => (
    some (v_4, w_1)))
  else (
    some ((-1 : Int32), w_1))))

def fX12_stop_68 (s1 : Int32) (s2 : Int32) (w : Wd) : Option (Int32 × Wd) :=
  if inb s1 4340 = true then (
  nw (wi w 149 s1 s2) fun w_2 => (
  some ((1 : Int32), w_2))) else none
def fX12_stop_39 (v1 : Int32) (v2 : Int32) (s0 : Int32) (w : Wd) : Option (Int32 × Wd) :=
  if s0 = v2 then (
    some ((0 : Int32), w))
  else (
    if v2 = 0 then (
      fX12_stop_68 (((1500 : Int32) + ((10 : Int32) * v1)) + (4 : Int32)) (0 : Int32) w)
    else (
      fX12_stop_68 (((1500 : Int32) + ((10 : Int32) * v1)) + (4 : Int32)) (1 : Int32) w))
def fX12_stop (v1 : Int32) (v2 : Int32) (w : Wd) : Option (Int32 × Wd) :=
  nw (si w 148 0 (0 : Int32)) fun w_1 => (
  (fX12_isCell v1 w_1).bind fun v_2 => (
  if v_2 = true then (
    (fX12_h v1 (0 : Int32) w_1).bind fun v_4 => (
    if v_4 = (1 : Int32) then (
      (fX12_h v1 (4 : Int32) w_1).bind fun v_6 => (
      if v_6 = (1 : Int32) then (
        fX12_stop_39 v1 v2 (1 : Int32) w_1)
      else (
        fX12_stop_39 v1 v2 (0 : Int32) w_1)))
    else (
      some ((-1 : Int32), w_1))))
  else (
    some ((-1 : Int32), w_1))))

def fX12_take_142 : Nat → Int32 → Int32 → Wd → Option (Int32 × Wd)
  | 0, _, _, _ => none
  | n + 1, v3, v4, w =>
  if v4 < (w.1 148 6) then (
    (fX12_spot v3 v4 w).bind fun v_2 => (
    if inb v4 19 = true then (
    if inb (v_2 + (0 : Int32)) 4340 = true then (
    nw (wi w 149 (v_2 + (0 : Int32)) (ri w 151 v4)) fun w_5 => (
    if inb (v_2 + (1 : Int32)) 4340 = true then (
    nw (wi w_5 149 (v_2 + (1 : Int32)) ((w_5.1 148 7) - ((w_5.1 148 8) * v4))) fun w_7 => (
    if inb (v_2 + (2 : Int32)) 4340 = true then (
    nw (wi w_7 149 (v_2 + (2 : Int32)) (0 : Int32)) fun w_9 => (
    if inb (v_2 + (3 : Int32)) 4340 = true then (
    nw (wi w_9 149 (v_2 + (3 : Int32)) (-9 : Int32)) fun w_11 => (
    if inb (v_2 + (4 : Int32)) 4340 = true then (
    nw (wi w_11 149 (v_2 + (4 : Int32)) (0 : Int32)) fun w_13 => (
    if inb (v_2 + (5 : Int32)) 4340 = true then (
    nw (wi w_13 149 (v_2 + (5 : Int32)) (0 : Int32)) fun w_15 => (
    (fX12_take_142 n) v3 (v4 + (1 : Int32)) w_15)) else none)) else none)) else none)) else none)) else none)) else none) else none))
  else (
    some (v3, w))
def fX12_take (v1 : Int32) (v2 : Int32) (w : Wd) : Option (Int32 × Wd) :=
  nw (si w 148 0 (0 : Int32)) fun w_1 => (
  (fX12_in v1.toInt64 (1 : Int64) (9 : Int64) w_1).bind fun v_2 => (
  if v_2 = true then (
    (fX12_in v2.toInt64 (0 : Int64) (1 : Int64) w_1).bind fun v_4 => (
    if v_4 = true then (
      if (w_1.1 148 6) = 0 then (
        some ((-3 : Int32), w_1))
      else (
        (fX12_g (15 : Int32) w_1).bind fun v_7 => (
        if v_7 = (8 : Int32) then (
          some ((-2 : Int32), w_1))
        else (
          (fX12_g (15 : Int32) w_1).bind fun v_9 => (
          nw (wi w_1 149 (4315 : Int32) ((ri w_1 149 (4315 : Int32)) + (1 : Int32))) fun w_10 => (
          if inb (((3300 : Int32) + ((125 : Int32) * v_9)) + (0 : Int32)) 4340 = true then (
          nw (wi w_10 149 (((3300 : Int32) + ((125 : Int32) * v_9)) + (0 : Int32)) (w_10.1 148 6)) fun w_12 => (
          if inb (((3300 : Int32) + ((125 : Int32) * v_9)) + (1 : Int32)) 4340 = true then (
          nw (wi w_12 149 (((3300 : Int32) + ((125 : Int32) * v_9)) + (1 : Int32)) v1) fun w_14 => (
          if inb (((3300 : Int32) + ((125 : Int32) * v_9)) + (2 : Int32)) 4340 = true then (
          nw (wi w_14 149 (((3300 : Int32) + ((125 : Int32) * v_9)) + (2 : Int32)) v2) fun w_16 => (
          if inb (((3300 : Int32) + ((125 : Int32) * v_9)) + (3 : Int32)) 4340 = true then (
          nw (wi w_16 149 (((3300 : Int32) + ((125 : Int32) * v_9)) + (3 : Int32)) (0 : Int32)) fun w_18 => (
          fX12_take_142 FU v_9 (0 : Int32) w_18)) else none)) else none)) else none)) else none))))))
    else (
      some ((-1 : Int32), w_1))))
  else (
    some ((-1 : Int32), w_1))))

def fX12_tape_55 : Nat → Int32 → Int32 → Int32 → Wd → Option (Int32 × Wd)
  | 0, _, _, _, _ => none
  | n + 1, v1, v3, v4, w =>
  if v4 < (100 : Int32) then (
    if inb (((100 : Int32) * v1) + v4) 600 = true then (
    nw (wl w 167 (((100 : Int32) * v1) + v4) (0 : Int64)) fun w_3 => (
    (fX12_tape_55 n) v1 v3 (v4 + (1 : Int32)) w_3)) else none)
  else (
    some (v3, w))
def fX12_tape (v1 : Int32) (v2 : Int32) (v3 : Int32) (w : Wd) : Option (Int32 × Wd) :=
  nw (si w 148 0 (0 : Int32)) fun w_1 => (
  (fX12_isTape v1 w_1).bind fun v_2 => (
  if v_2 = true then (
    (fX12_isRow v2 w_1).bind fun v_4 => (
    if v_4 = true then (
      if (100 : Int32) < v3 then (
        some ((-1 : Int32), w_1))
      else (
        if v3 < 0 then (
          (fX12_host (-14 : Int32) w_1).bind fun v_8 => (
          some (v_8.1, v_8.2)))
        else (
          if inb v1 6 = true then (
          nw (wi w_1 165 v1 v2) fun w_10 => (
          nw (wi w_10 166 v1 v3) fun w_11 => (
          fX12_tape_55 FU v1 v3 (0 : Int32) w_11))) else none)))
    else (
      some ((-1 : Int32), w_1))))
  else (
    some ((-1 : Int32), w_1))))

def fX12_thrown (w : Wd) : Option Int32 :=
  some (w.1 148 0)

def fX12_tide_79 : Nat → Int32 → Int32 → Wd → Option (Int32 × Wd)
  | 0, _, _, _ => none
  | n + 1, v1, v2, w =>
  if v2 < (w.1 148 4) then (
    if inb (((100 : Int32) * v1) + v2) 600 = true then (
    if inb v2 60 = true then (
    nw (wi w 150 v2 ((rl w 167 (((100 : Int32) * v1) + v2)).toInt32)) fun w_4 => (
    (fX12_tide_79 n) v1 (v2 + (1 : Int32)) w_4)) else none) else none)
  else (
    some ((w.1 148 4), w))
def fX12_tide (v1 : Int32) (w : Wd) : Option (Int32 × Wd) :=
  nw (si w 148 0 (0 : Int32)) fun w_1 => (
  (fX12_isTape v1 w_1).bind fun v_2 => (
  if v_2 = true then (
    if inb v1 6 = true then (
    if (ri w_1 165 v1) = 0 then (
      (fX12_host (-11 : Int32) w_1).bind fun v_6 => (
      some (v_6.1, v_6.2)))
    else (
      if (ri w_1 165 v1) = (1 : Int32) then (
        (fX12_in ((ri w_1 166 v1).toInt64) (1 : Int64) (60 : Int64) w_1).bind fun v_8 => (
        if v_8 = true then (
          nw (si w_1 148 4 (ri w_1 166 v1)) fun w_10 => (
          fX12_tide_79 FU v1 (0 : Int32) w_10))
        else (
          some ((-2 : Int32), w_1))))
      else (
        (fX12_host (-12 : Int32) w_1).bind fun v_11 => (
        some (v_11.1, v_11.2))))) else none)
  else (
    some ((-1 : Int32), w_1))))

def fX12_toss_52 : Nat → Int32 → Int32 → Int32 → Wd → Option (Int32 × Wd)
  | 0, _, _, _, _ => none
  | n + 1, v1, v2, v3, w =>
  if v3 < (100 : Int32) then (
    if inb ((((4340 : Int32) * v1) + ((15 : Int32) * v3)) + (11 : Int32)) 26040 = true then (
    if 0 < (ri w 168 ((((4340 : Int32) * v1) + ((15 : Int32) * v3)) + (11 : Int32))) then (
      (fX12_toss_52 n) v1 (v2 + (1 : Int32)) (v3 + (1 : Int32)) w)
    else (
      (fX12_toss_52 n) v1 (v2 + (0 : Int32)) (v3 + (1 : Int32)) w)) else none)
  else (
    if v2 = 0 then (
      (fX12_host (-15 : Int32) w).bind fun v_5 => (
      some (v_5.1, v_5.2)))
    else (
      some (v2, w)))
def fX12_toss (v1 : Int32) (w : Wd) : Option (Int32 × Wd) :=
  nw (si w 148 0 (0 : Int32)) fun w_1 => (
  (fX12_isTape v1 w_1).bind fun v_2 => (
  if v_2 = true then (
    if inb v1 6 = true then (
    if (ri w_1 165 v1) = 0 then (
      (fX12_host (-11 : Int32) w_1).bind fun v_6 => (
      some (v_6.1, v_6.2)))
    else (
      if (ri w_1 165 v1) = (6 : Int32) then (
        fX12_toss_52 FU v1 (0 : Int32) (0 : Int32) w_1)
      else (
        (fX12_host (-12 : Int32) w_1).bind fun v_8 => (
        some (v_8.1, v_8.2))))) else none)
  else (
    some ((-1 : Int32), w_1))))

def fX12_way (v1 : Int32) (w : Wd) : Option (Int32 × Wd) :=
  nw (si w 148 0 (0 : Int32)) fun w_1 => (
  (fX12_in v1.toInt64 (0 : Int64) (((w_1.1 148 6) - (1 : Int32)).toInt64) w_1).bind fun v_2 => (
  if v_2 = true then (
    if inb v1 19 = true then (
    some ((ri w_1 151 v1), w_1)) else none)
  else (
    some ((-9 : Int32), w_1))))

def fX12_window_35 : Nat → Int32 → Int32 → Int32 → Wd → Option (Int32 × Wd)
  | 0, _, _, _, _ => none
  | n + 1, v1, v2, v3, w =>
  if v3 < (v1 + (100 : Int32)) then (
    (fX12_levelAt v3 w).bind fun v_2 => (
    if v_2 < v2 then (
      (fX12_isBack v3 w).bind fun v_4 => (
      if v_4 = true then (
        (fX12_window_35 n) v1 v2 (v3 + (1 : Int32)) w)
      else (
        some (v3, w))))
    else (
      (fX12_window_35 n) v1 v2 (v3 + (1 : Int32)) w)))
  else (
    some ((-3 : Int32), w))
def fX12_window (v1 : Int32) (v2 : Int32) (w : Wd) : Option (Int32 × Wd) :=
  nw (si w 148 0 (0 : Int32)) fun w_1 => (
  (fX12_in v1.toInt64 (0 : Int64) (99999 : Int64) w_1).bind fun v_2 => (
  if v_2 = true then (
    (fX12_in v2.toInt64 (-128 : Int64) (127 : Int64) w_1).bind fun v_4 => (
    if v_4 = true then (
      fX12_window_35 FU v1 v2 v1 w_1)
    else (
      some ((-1 : Int32), w_1))))
  else (
    some ((-1 : Int32), w_1))))
