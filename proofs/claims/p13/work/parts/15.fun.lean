def f_X8_flowAt (σ : sx_T) (t : Nat) (x1 : Int32) : Option (Option Nat) :=
  if x1 < 0 then
    some none
  else
    if (sx_I σ t 7) ≤ x1 then
      some none
    else
      qv (sx_R σ t 2) fun w3 =>
      bq w3 fun a4 =>
      if (Int32.ofNat (sx_N σ a4)) ≤ x1 then
        some none
      else
        qv (sx_R σ t 2) fun w6 =>
        bq w6 fun a7 =>
        ck x1 (sx_N σ a7) <|
        qv (sx_R σ a7 (ti x1)) fun w9 =>
        some w9
def f_X1_kindAt (σ : sx_T) (t : Nat) (x1 : Int32) : Option Int32 :=
  if x1 < 0 then
    some (-1)
  else
    if (sx_I σ t 2) ≤ x1 then
      some (-1)
    else
      qv (sx_R σ t 0) fun w3 =>
      bq w3 fun a4 =>
      if (Int32.ofNat (sx_N σ a4)) ≤ x1 then
        some (-1)
      else
        qv (sx_R σ t 0) fun w6 =>
        bq w6 fun a7 =>
        ck x1 (sx_N σ a7) <|
        some (sx_I σ a7 (ti x1))
def f_X1_numberAt (σ : sx_T) (t : Nat) (x1 : Int32) : Option Int64 :=
  if x1 < 0 then
    some 0
  else
    if (sx_I σ t 2) ≤ x1 then
      some 0
    else
      qv (sx_R σ t 1) fun w3 =>
      bq w3 fun a4 =>
      if (Int32.ofNat (sx_N σ a4)) ≤ x1 then
        some 0
      else
        qv (sx_R σ t 1) fun w6 =>
        bq w6 fun a7 =>
        ck x1 (sx_N σ a7) <|
        some (sx_J σ a7 (ti x1))
def f_J9_floorMod_f86c9 (σ : sx_T) (x0 : Int64) (x2 : Int64) : Option Int64 :=
  if x2 = 0 then none else
  if 0 ≤ (lg_cmp (x0 ^^^ x2) 0) then
    some (jreml x0 x2)
  else
    if (lg_cmp (jreml x0 x2) 0) = 0 then
      some (jreml x0 x2)
    else
      some ((jreml x0 x2) + x2)
def f_X1_ending (σ : sx_T) (t : Nat) : Option Int32 :=
  br (f_X1_kindAt σ t ((sx_I σ t 2) - 1)) fun r2 =>
  if r2 = 13 then
    br (f_X1_numberAt σ t ((sx_I σ t 2) - 1)) fun r6 =>
    br (f_J9_floorMod_f86c9 σ r6 10) fun r9 =>
    some r9.toInt32
  else
    some 0
def f_X0_hasEnded (σ : sx_T) (t : Nat) : Option Int32 :=
  qv (sx_R σ t 1) fun w1 =>
  bq w1 fun a2 =>
  br (f_X1_ending σ a2) fun r4 =>
  if r4 = 0 then
    some 0
  else
    some 1
def f_X5_begin (σ : sx_T) (t : Nat) (v1 : Option Nat) (v2 : Option Nat) : Option sx_T :=
  qv (sx_R σ t 0) fun w3 =>
  bq w3 fun a4 =>
  qv (sx_R σ t 1) fun w6 =>
  bq w6 fun a7 =>
  bq v2 fun a11 =>
  br (f_X1_numberAt (wx_I (wx_I (wx_I (wx_I (wx_R (wx_R σ t 2 v1) t 3 (some a11)) a4 1 0) a7 1 0) t 4 1) t 5 0) a11 0) fun r13 =>
  some (wx_I (wx_I (wx_J (wx_I (wx_I (wx_I (wx_I (wx_I (wx_J (wx_I (wx_I (wx_I (wx_I (wx_I (wx_I (wx_I (wx_I (wx_I (wx_R (wx_R σ t 2 v1) t 3 (some a11)) a4 1 0) a7 1 0) t 4 1) t 5 0) t 6 r13.toInt32) t 7 0) t 8 0) t 9 (-1)) t 10 (-1)) t 11 0) t 12 0) t 13 0) t 14 0) t 15 0) t 16 (-1)) t 17 0) t 18 (-1)) t 19 0)
def f_X1_size (σ : sx_T) (t : Nat) : Option Int32 :=
  some (sx_I σ t 2)
def f_X5_failNow (σ : sx_T) (t : Nat) : Option sx_T :=
  some (wx_I (wx_I σ t 8 0) t 14 2)
def f_X5_want (σ : sx_T) (t : Nat) (x1 : Int32) (x2 : Int64) : Option sx_T :=
  some (wx_J (wx_I σ t 16 x1) t 17 x2)
def fb_X5_follow_108 (σ : sx_T) (y0 : Int32) (t : Nat) : Option sx_T :=
  some (wx_I σ t 8 y0)
def f_X5_follow (σ : sx_T) (t : Nat) (x1 : Int32) (x2 : Int64) : Option sx_T :=
  if x1 = 1 then
    some (wx_I σ t 8 1)
  else
  if x1 = 4 then
    if (sx_I σ t 9) = (-1) then
      fb_X5_follow_108 (wx_J σ t 11 x2) 2 t
    else
      fb_X5_follow_108 (wx_J σ t 11 x2) 4 t
  else
  if x1 = 7 then
    some (wx_I (wx_I σ t 8 5) t 10 x2.toInt32)
  else
  if x1 = 9 then
    some (wx_I σ t 6 x2.toInt32)
  else
  if x1 = 10 then
    some (wx_I σ t 6 1)
  else
  if x1 = 11 then
    some (wx_I σ t 8 6)
  else
  if x1 = 14 then
    if (lg_cmp (sx_J σ t 17) (-1)) = 0 then
      br (f_X5_want σ t 13 ((10 * ((sx_I σ t 6).toInt64)) + 4)) fun u18 =>
      some u18
    else
      some (wx_I σ t 6 x2.toInt32)
  else
  some (wx_I σ t 15 1)
def fb_X5_takeWanted_130 (σ : sx_T) (t : Nat) : Option sx_T :=
  if (sx_I σ t 16) = 10 then
    some (wx_I (wx_I σ t 16 (-1)) t 6 0)
  else
    some (wx_I σ t 19 1)
def fb_X5_takeWanted_121 (σ : sx_T) (t : Nat) (x2 : Int32) (x3 : Int64) : Option sx_T :=
  br (f_X5_follow σ t x2 x3) fun u2 =>
  some u2
def fb_X5_takeWanted_114 (σ : sx_T) (t : Nat) : Option sx_T :=
  br (f_X5_failNow σ t) fun u2 =>
  some u2
def fb_X5_takeWanted_81 (σ : sx_T) (t : Nat) (x2 : Int32) (x3 : Int64) : Option sx_T :=
  if 0 ≤ (lg_cmp x3 0) then
    fb_X5_takeWanted_121 (wx_I (wx_I σ t 16 (-1)) t 4 ((sx_I σ t 4) + 1)) t x2 x3
  else
    if x2 = 7 then
      fb_X5_takeWanted_114 (wx_I (wx_I σ t 16 (-1)) t 4 ((sx_I σ t 4) + 1)) t
    else
      if x2 = 14 then
        fb_X5_takeWanted_114 (wx_I (wx_I σ t 16 (-1)) t 4 ((sx_I σ t 4) + 1)) t
      else
        fb_X5_takeWanted_121 (wx_I (wx_I σ t 16 (-1)) t 4 ((sx_I σ t 4) + 1)) t x2 x3
def fb_X5_takeWanted_57 (σ : sx_T) (t : Nat) (x2 : Int32) (x3 : Int64) (y0 : Int32) : Option sx_T :=
  if x2 = (sx_I σ t 16) then
    if y0 = 0 then
      if (lg_cmp x3 (sx_J σ t 17)) = 0 then
        fb_X5_takeWanted_81 σ t x2 x3
      else
        fb_X5_takeWanted_130 σ t
    else
      fb_X5_takeWanted_81 σ t x2 x3
  else
    fb_X5_takeWanted_130 σ t
def fb_X5_takeWanted_52 (σ : sx_T) (t : Nat) (x2 : Int32) (x3 : Int64) : Option sx_T :=
  fb_X5_takeWanted_57 σ t x2 x3 1
def f_X5_takeWanted (σ : sx_T) (t : Nat) (x1 : Int32) : Option sx_T :=
  if x1 = 0 then
    some σ
  else
    qv (sx_R σ t 3) fun w2 =>
    bq w2 fun a3 =>
    br (f_X1_kindAt σ a3 (sx_I σ t 4)) fun r5 =>
    qv (sx_R σ t 3) fun w7 =>
    bq w7 fun a8 =>
    br (f_X1_numberAt σ a8 (sx_I σ t 4)) fun r10 =>
    if r5 = 4 then
      fb_X5_takeWanted_52 σ t r5 r10
    else
      if r5 = 7 then
        fb_X5_takeWanted_52 σ t r5 r10
      else
        if r5 = 9 then
          fb_X5_takeWanted_52 σ t r5 r10
        else
          if r5 = 14 then
            fb_X5_takeWanted_52 σ t r5 r10
          else
            fb_X5_takeWanted_57 σ t r5 r10 0
def f_X6_keep (σ : sx_T) (t : Nat) (x1 : Int32) : Option sx_T :=
  if (sx_I σ t 1) < 0 then
    some σ
  else
    qv (sx_R σ t 0) fun w2 =>
    bq w2 fun a3 =>
    if (Int32.ofNat (sx_N σ a3)) ≤ (sx_I σ t 1) then
      some σ
    else
      qv (sx_R σ t 0) fun w5 =>
      bq w5 fun a6 =>
      ck (sx_I σ t 1) (sx_N σ a6) <|
      some (wx_I (wx_I σ a6 (ti (sx_I σ t 1)) x1) t 1 ((sx_I σ t 1) + 1))
def fb_X5_receive_63 (σ : sx_T) (t : Nat) (y0 : Int32) : Option sx_T :=
  some (wx_I (wx_I σ t 6 y0) t 8 0)
def fb_X5_receive_16 (σ : sx_T) (t : Nat) (x1 : Int32) : Option sx_T :=
  if (x1 / 100) = (sx_I σ t 9) then
    if (sx_I σ t 8) = 4 then
      fb_X5_receive_63 σ t 1
    else
      fb_X5_receive_63 σ t (jrem x1 100)
  else
    qv (sx_R σ t 1) fun w3 =>
    bq w3 fun a4 =>
    br (f_X6_keep σ a4 x1) fun u6 =>
    some u6
def f_X5_receive (σ : sx_T) (t : Nat) (x1 : Int32) : Option sx_T :=
  if (sx_I σ t 8) = 3 then
    fb_X5_receive_16 σ t x1
  else
    if (sx_I σ t 8) = 4 then
      fb_X5_receive_16 σ t x1
    else
      qv (sx_R σ t 1) fun w3 =>
      bq w3 fun a4 =>
      br (f_X6_keep σ a4 x1) fun u6 =>
      some u6
def fb_X5_beAsked_39 (σ : sx_T) (t : Nat) : Option sx_T :=
  some (wx_I (wx_I σ t 8 0) t 14 3)
def f_X5_beAsked (σ : sx_T) (t : Nat) : Option sx_T :=
  if (sx_I σ t 14) = 0 then
    if (sx_I σ t 12) = 0 then
      if (sx_I σ t 8) = 5 then
        fb_X5_beAsked_39 (wx_I σ t 18 ((sx_I σ t 4) - 1)) t
      else
        fb_X5_beAsked_39 σ t
    else
      some (wx_I σ t 13 1)
  else
    some σ
def f_J9_floorDiv_f86c9 (σ : sx_T) (x0 : Int64) (x2 : Int64) : Option Int64 :=
  if x2 = 0 then none else
  if 0 ≤ (lg_cmp (x0 ^^^ x2) 0) then
    some (x0 / x2)
  else
    if (lg_cmp ((x0 / x2) * x2) x0) = 0 then
      some (x0 / x2)
    else
      some ((x0 / x2) - 1)
def f_X5_takeEnded (σ : sx_T) (t : Nat) (x1 : Int64) : Option sx_T :=
  br (f_J9_floorMod_f86c9 (wx_I σ t 8 0) x1 10) fun r3 =>
  if (lg_cmp r3 1) = 0 then
    br (f_J9_floorDiv_f86c9 (wx_I σ t 8 0) x1 10) fun r7 =>
    some (wx_I (wx_I σ t 8 0) t 6 r7.toInt32)
  else
    br (f_X5_failNow (wx_I σ t 8 0) t) fun u11 =>
    some u11
def fb_X5_takeAwaited_215 (σ : sx_T) (t : Nat) : Option sx_T :=
  some (wx_I σ t 19 1)
def fb_X5_takeAwaited_193 (σ : sx_T) (t : Nat) (x2 : Int32) (x3 : Int64) : Option sx_T :=
  if x2 = 8 then
    if (sx_I σ t 8) = 5 then
      br (f_X5_takeEnded σ t x3) fun u4 =>
      some u4
    else
      fb_X5_takeAwaited_215 σ t
  else
    fb_X5_takeAwaited_215 σ t
def fb_X5_takeAwaited_167 (σ : sx_T) (t : Nat) (x2 : Int32) (x3 : Int64) : Option sx_T :=
  if x2 = 5 then
    if (sx_I σ t 8) = 4 then
      some (wx_I (wx_I σ t 8 0) t 6 0)
    else
      fb_X5_takeAwaited_193 σ t x2 x3
  else
    fb_X5_takeAwaited_193 σ t x2 x3
def fb_X5_takeAwaited_146 (σ : sx_T) (t : Nat) (x2 : Int32) (x3 : Int64) : Option sx_T :=
  if x2 = 5 then
    if (sx_I σ t 8) = 2 then
      some (wx_I σ t 8 0)
    else
      fb_X5_takeAwaited_167 σ t x2 x3
  else
    fb_X5_takeAwaited_167 σ t x2 x3
def fb_X5_takeAwaited_129 (σ : sx_T) (t : Nat) (x2 : Int32) (x3 : Int64) : Option sx_T :=
  if (sx_I σ t 8) = 6 then
    some (wx_I σ t 8 0)
  else
    fb_X5_takeAwaited_146 σ t x2 x3
def fb_X5_takeAwaited_119 (σ : sx_T) (t : Nat) (x2 : Int32) (x3 : Int64) : Option sx_T :=
  if x2 = 2 then
    fb_X5_takeAwaited_129 σ t x2 x3
  else
    if x2 = 3 then
      fb_X5_takeAwaited_129 σ t x2 x3
    else
      fb_X5_takeAwaited_146 σ t x2 x3
def fb_X5_takeAwaited_99 (σ : sx_T) (t : Nat) (x2 : Int32) (x3 : Int64) : Option sx_T :=
  if x2 = 3 then
    if (sx_I σ t 8) = 1 then
      br (f_X5_failNow σ t) fun u4 =>
      some u4
    else
      fb_X5_takeAwaited_119 σ t x2 x3
  else
    fb_X5_takeAwaited_119 σ t x2 x3
def f_X5_takeAwaited (σ : sx_T) (t : Nat) (x1 : Int32) : Option sx_T :=
  if x1 = 0 then
    some σ
  else
    qv (sx_R σ t 3) fun w2 =>
    bq w2 fun a3 =>
    br (f_X1_kindAt σ a3 (sx_I σ t 4)) fun r5 =>
    qv (sx_R σ t 3) fun w7 =>
    bq w7 fun a8 =>
    br (f_X1_numberAt σ a8 (sx_I σ t 4)) fun r10 =>
    if r5 = 6 then
      br (f_X5_receive (wx_I (wx_I σ t 4 ((sx_I σ t 4) + 1)) t 7 0) t r10.toInt32) fun u16 =>
      some u16
    else
      if r5 = 12 then
        br (f_X5_beAsked (wx_I (wx_I σ t 4 ((sx_I σ t 4) + 1)) t 7 0) t) fun u20 =>
        some u20
      else
        if r5 = 2 then
          if (sx_I σ t 8) = 1 then
            some (wx_I (wx_I (wx_I (wx_I σ t 4 ((sx_I σ t 4) + 1)) t 7 0) t 8 0) t 6 r10.toInt32)
          else
            fb_X5_takeAwaited_99 (wx_I (wx_I σ t 4 ((sx_I σ t 4) + 1)) t 7 0) t r5 r10
        else
          fb_X5_takeAwaited_99 (wx_I (wx_I σ t 4 ((sx_I σ t 4) + 1)) t 7 0) t r5 r10
def f_X3_pop (σ : sx_T) (t : Nat) : Option (Int32 × sx_T) :=
  if ((sx_I σ t 1) - 1) < 0 then
    some ((-1), σ)
  else
    qv (sx_R σ t 0) fun w2 =>
    bq w2 fun a3 =>
    if ((sx_I σ t 1) - 1) < (Int32.ofNat (sx_N σ a3)) then
      qv (sx_R σ t 0) fun w6 =>
      bq w6 fun a7 =>
      ck ((sx_I σ t 1) - 1) (sx_N σ a7) <|
      some (sx_I σ a7 (ti ((sx_I σ t 1) - 1)), (wx_I σ t 1 ((sx_I σ t 1) - 1)))
    else
      some ((-1), σ)
def f_X5_undo (σ : sx_T) (t : Nat) : Option sx_T :=
  qv (sx_R σ t 0) fun w1 =>
  bq w1 fun a2 =>
  bd (f_X3_pop σ a2) fun r4 u5 =>
  if r4 = (-1) then
    br (f_X5_want u5 t 13 ((10 * ((sx_I u5 t 6).toInt64)) + ((sx_I u5 t 14).toInt64))) fun u9 =>
    some u9
  else
    br (f_X5_want u5 t 11 r4.toInt64) fun u12 =>
    some u12
def f_X4_operation (σ : sx_T) (t : Nat) (x1 : Int32) : Option Int32 :=
  if x1 < 0 then
    some 0
  else
    qv (sx_R σ t 1) fun w2 =>
    bq w2 fun a3 =>
    if (Int32.ofNat (sx_N σ a3)) ≤ x1 then
      some 0
    else
      qv (sx_R σ t 1) fun w5 =>
      bq w5 fun a6 =>
      ck x1 (sx_N σ a6) <|
      some (sx_I σ a6 (ti x1))
def f_X4_first (σ : sx_T) (t : Nat) (x1 : Int32) : Option Int32 :=
  if x1 < 0 then
    some 0
  else
    qv (sx_R σ t 2) fun w2 =>
    bq w2 fun a3 =>
    if (Int32.ofNat (sx_N σ a3)) ≤ x1 then
      some 0
    else
      qv (sx_R σ t 2) fun w5 =>
      bq w5 fun a6 =>
      ck x1 (sx_N σ a6) <|
      some (sx_I σ a6 (ti x1))
def f_X4_second (σ : sx_T) (t : Nat) (x1 : Int32) : Option Int32 :=
  if x1 < 0 then
    some 0
  else
    qv (sx_R σ t 3) fun w2 =>
    bq w2 fun a3 =>
    if (Int32.ofNat (sx_N σ a3)) ≤ x1 then
      some 0
    else
      qv (sx_R σ t 3) fun w5 =>
      bq w5 fun a6 =>
      ck x1 (sx_N σ a6) <|
      some (sx_I σ a6 (ti x1))
def f_X3_isFull (σ : sx_T) (t : Nat) : Option Int32 :=
  if (sx_I σ t 1) < 20 then
    some 0
  else
    some 1
def fl_X6_find_2 (n0 : Nat) : Nat → sx_T → Nat → Int32 → Int32 → Option Int32
  | 0 => fun _ _ _ _ => none
  | n + 1 => fun σ t x1 x2 =>
    if (sx_I σ t 1) ≤ x2 then
      some (-1)
    else
      qv (sx_R σ t 0) fun w2 =>
      bq w2 fun a3 =>
      if (Int32.ofNat (sx_N σ a3)) ≤ x2 then
        some (-1)
      else
        qv (sx_R σ t 0) fun w5 =>
        bq w5 fun a6 =>
        ck x2 (sx_N σ a6) <|
        if ((sx_I σ a6 (ti x2)) / 100) = x1 then
          some x2
        else
          fl_X6_find_2 n0 n σ t x1 (x2 + 1)
def f_X6_find (n0 : Nat) (σ : sx_T) (t : Nat) (x1 : Int32) : Option Int32 :=
  fl_X6_find_2 n0 n0 σ t x1 0
def f_X5_isRefused (n0 : Nat) (σ : sx_T) (t : Nat) (x1 : Int32) (x2 : Int32) : Option Int32 :=
  if x1 = 1 then
    if (sx_I σ t 4) < 60 then
      some 0
    else
      some 1
  else
  if x1 = 2 then
    if (sx_I σ t 4) < 60 then
      some 0
    else
      some 1
  else
  if x1 = 4 then
    if (sx_I σ t 4) < 60 then
      some 0
    else
      qv (sx_R σ t 1) fun w7 =>
      bq w7 fun a8 =>
      br (f_X6_find n0 σ a8 x2) fun r10 =>
      if r10 = (-1) then
        some 1
      else
        some 0
  else
  if x1 = 9 then
    if (sx_I σ t 4) < 60 then
      some 0
    else
      some 1
  else
  if x1 = 10 then
    if (sx_I σ t 4) < 60 then
      some 0
    else
      some 1
  else
  if x1 = 11 then
    if (sx_I σ t 4) < 60 then
      some 0
    else
      some 1
  else
  if x1 = 12 then
    qv (sx_R σ t 0) fun w20 =>
    bq w20 fun a21 =>
    br (f_X3_isFull σ a21) fun r23 =>
    some r23
  else
  if x1 = 14 then
    if (sx_I σ t 4) < 60 then
      some 0
    else
      some 1
  else
  if x1 = 17 then
    if (sx_I σ t 4) < 60 then
      some 0
    else
      some 1
  else
  some 0
def f_J9_max_7cf53 (σ : sx_T) (x0 : Int32) (x1 : Int32) : Option Int32 :=
  if x0 < x1 then
    some x1
  else
    some x0
def fl_X6_use_38 (n0 : Nat) : Nat → sx_T → Nat → Int32 → Int32 → Option (Int32 × sx_T)
  | 0 => fun _ _ _ _ => none
  | n + 1 => fun σ t x2 x3 =>
    if (sx_I σ t 1) ≤ (x3 + 1) then
      some (x2, (wx_I σ t 1 ((sx_I σ t 1) - 1)))
    else
      qv (sx_R σ t 0) fun w3 =>
      qv (sx_R σ t 0) fun w4 =>
      bq w4 fun a5 =>
      ck (x3 + 1) (sx_N σ a5) <|
      bq w3 fun a7 =>
      ck x3 (sx_N σ a7) <|
      fl_X6_use_38 n0 n (wx_I σ a7 (ti x3) (sx_I σ a5 (ti (x3 + 1)))) t x2 (x3 + 1)
def f_X6_use (n0 : Nat) (σ : sx_T) (t : Nat) (x1 : Int32) : Option (Int32 × sx_T) :=
  if x1 < 0 then
    some (0, σ)
  else
    if (sx_I σ t 1) ≤ x1 then
      some (0, σ)
    else
      qv (sx_R σ t 0) fun w3 =>
      bq w3 fun a4 =>
      if (sx_I σ t 1) ≤ (Int32.ofNat (sx_N σ a4)) then
        qv (sx_R σ t 0) fun w6 =>
        bq w6 fun a7 =>
        ck x1 (sx_N σ a7) <|
        fl_X6_use_38 n0 n0 σ t (jrem (sx_I σ a7 (ti x1)) 100) x1
      else
        some (0, σ)
def f_X5_await (n0 : Nat) (σ : sx_T) (t : Nat) (x1 : Int32) : Option sx_T :=
  qv (sx_R σ t 1) fun w1 =>
  bq w1 fun a2 =>
  br (f_X6_find n0 σ a2 x1) fun r4 =>
  if r4 = (-1) then
    some (wx_I (wx_I σ t 9 x1) t 8 3)
  else
    qv (sx_R σ t 1) fun w9 =>
    bq w9 fun a10 =>
    bd (f_X6_use n0 σ a10 r4) fun r12 u13 =>
    some (wx_I u13 t 6 r12)
def f_X5_select (n0 : Nat) (σ : sx_T) (t : Nat) (x1 : Int32) (x2 : Int32) : Option sx_T :=
  qv (sx_R σ t 1) fun w1 =>
  bq w1 fun a2 =>
  br (f_X6_find n0 σ a2 x1) fun r4 =>
  if r4 = (-1) then
    br (f_J9_max_7cf53 (wx_I σ t 9 x1) 1 x2) fun r9 =>
    br (f_X5_want (wx_I σ t 9 x1) t 4 r9.toInt64) fun u12 =>
    some u12
  else
    qv (sx_R σ t 1) fun w14 =>
    bq w14 fun a15 =>
    bd (f_X6_use n0 σ a15 r4) fun r17 u18 =>
    some (wx_I u18 t 6 1)
def f_X3_push (σ : sx_T) (t : Nat) (x1 : Int32) : Option sx_T :=
  if (sx_I σ t 1) < 0 then
    some σ
  else
    qv (sx_R σ t 0) fun w2 =>
    bq w2 fun a3 =>
    if (Int32.ofNat (sx_N σ a3)) ≤ (sx_I σ t 1) then
      some σ
    else
      qv (sx_R σ t 0) fun w5 =>
      bq w5 fun a6 =>
      ck (sx_I σ t 1) (sx_N σ a6) <|
      some (wx_I (wx_I σ a6 (ti (sx_I σ t 1)) x1) t 1 ((sx_I σ t 1) + 1))
def fb_X5_stepWithoutEvent_163 (σ : sx_T) (y0 : Int32) (t : Nat) : Option sx_T :=
  some (wx_I σ t 14 y0)
def fb_X5_stepWithoutEvent_83 (σ : sx_T) (y0 : Int32) (t : Nat) : Option sx_T :=
  some (wx_I σ t 5 y0)
def f_X5_stepWithoutEvent (σ : sx_T) (t : Nat) (x1 : Int32) (x2 : Int32) : Option sx_T :=
  if x1 = 5 then
    if (sx_I σ t 6) = 0 then
      fb_X5_stepWithoutEvent_83 σ (jrem x2 20) t
    else
      fb_X5_stepWithoutEvent_83 σ (sx_I σ t 5) t
  else
  if x1 = 6 then
    some (wx_I σ t 5 (jrem x2 20))
  else
  if x1 = 7 then
    some (wx_I σ t 6 ((sx_I σ t 6) + x2))
  else
  if x1 = 8 then
    some (wx_I σ t 6 ((sx_I σ t 6) - x2))
  else
  if x1 = 12 then
    qv (sx_R σ t 0) fun w10 =>
    bq w10 fun a11 =>
    br (f_X3_push σ a11 x2) fun u13 =>
    some u13
  else
  if x1 = 13 then
    br (f_X5_failNow σ t) fun u17 =>
    some u17
  else
  if x1 = 15 then
    some (wx_I σ t 12 1)
  else
  if x1 = 16 then
    if (sx_I σ t 13) = 0 then
      fb_X5_stepWithoutEvent_163 (wx_I σ t 12 0) 0 t
    else
      fb_X5_stepWithoutEvent_163 (wx_I σ t 12 0) 3 t
  else
  some σ
def fb_X5_step_77 (n0 : Nat) (σ : sx_T) (t : Nat) : Option sx_T :=
  br (f_X5_failNow σ t) fun u2 =>
  some u2
def f_X5_step (n0 : Nat) (σ : sx_T) (t : Nat) : Option sx_T :=
  qv (sx_R σ t 2) fun w1 =>
  bq w1 fun a2 =>
  br (f_X4_operation σ a2 (sx_I σ t 5)) fun r4 =>
  qv (sx_R σ t 2) fun w6 =>
  bq w6 fun a7 =>
  br (f_X4_first σ a7 (sx_I σ t 5)) fun r9 =>
  qv (sx_R σ t 2) fun w11 =>
  bq w11 fun a12 =>
  br (f_X4_second σ a12 (sx_I σ t 5)) fun r14 =>
  if 60 < ((sx_I σ t 7) + 1) then
    fb_X5_step_77 n0 (wx_I (wx_I σ t 5 (jrem ((sx_I σ t 5) + 1) 20)) t 7 ((sx_I σ t 7) + 1)) t
  else
    br (f_X5_isRefused n0 (wx_I (wx_I σ t 5 (jrem ((sx_I σ t 5) + 1) 20)) t 7 ((sx_I σ t 7) + 1)) t r4 r9) fun r20 =>
    if r20 = 0 then
      if r4 = 0 then
        br (f_X5_want (wx_I (wx_I σ t 5 (jrem ((sx_I σ t 5) + 1) 20)) t 7 ((sx_I σ t 7) + 1)) t 13 ((10 * ((sx_I σ t 6).toInt64)) + 1)) fun u25 =>
        some u25
      else
      if r4 = 1 then
        br (f_X5_want (wx_I (wx_I σ t 5 (jrem ((sx_I σ t 5) + 1) 20)) t 7 ((sx_I σ t 7) + 1)) t 1 r9.toInt64) fun u29 =>
        some u29
      else
      if r4 = 2 then
        br (f_J9_max_7cf53 (wx_I (wx_I (wx_I σ t 5 (jrem ((sx_I σ t 5) + 1) 20)) t 7 ((sx_I σ t 7) + 1)) t 9 (-1)) 1 r9) fun r34 =>
        br (f_X5_want (wx_I (wx_I (wx_I σ t 5 (jrem ((sx_I σ t 5) + 1) 20)) t 7 ((sx_I σ t 7) + 1)) t 9 (-1)) t 4 r34.toInt64) fun u37 =>
        some u37
      else
      if r4 = 3 then
        br (f_X5_await n0 (wx_I (wx_I σ t 5 (jrem ((sx_I σ t 5) + 1) 20)) t 7 ((sx_I σ t 7) + 1)) t r9) fun u41 =>
        some u41
      else
      if r4 = 4 then
        br (f_X5_select n0 (wx_I (wx_I σ t 5 (jrem ((sx_I σ t 5) + 1) 20)) t 7 ((sx_I σ t 7) + 1)) t r9 r14) fun u45 =>
        some u45
      else
      if r4 = 9 then
        br (f_X5_want (wx_I (wx_I σ t 5 (jrem ((sx_I σ t 5) + 1) 20)) t 7 ((sx_I σ t 7) + 1)) t 7 ((jrem r9 6).toInt64)) fun u49 =>
        some u49
      else
      if r4 = 10 then
        br (f_X5_want (wx_I (wx_I σ t 5 (jrem ((sx_I σ t 5) + 1) 20)) t 7 ((sx_I σ t 7) + 1)) t 14 ((jrem r9 6).toInt64)) fun u53 =>
        some u53
      else
      if r4 = 11 then
        br (f_X5_want (wx_I (wx_I σ t 5 (jrem ((sx_I σ t 5) + 1) 20)) t 7 ((sx_I σ t 7) + 1)) t 9 r9.toInt64) fun u57 =>
        some u57
      else
      if r4 = 14 then
        br (f_X5_want (wx_I (wx_I σ t 5 (jrem ((sx_I σ t 5) + 1) 20)) t 7 ((sx_I σ t 7) + 1)) t 10 r9.toInt64) fun u61 =>
        some u61
      else
      if r4 = 17 then
        br (f_X5_want (wx_I (wx_I σ t 5 (jrem ((sx_I σ t 5) + 1) 20)) t 7 ((sx_I σ t 7) + 1)) t 14 (-1)) fun u65 =>
        some u65
      else
      br (f_X5_stepWithoutEvent (wx_I (wx_I σ t 5 (jrem ((sx_I σ t 5) + 1) 20)) t 7 ((sx_I σ t 7) + 1)) t r4 r9) fun u68 =>
      some u68
    else
      fb_X5_step_77 n0 (wx_I (wx_I σ t 5 (jrem ((sx_I σ t 5) + 1) 20)) t 7 ((sx_I σ t 7) + 1)) t
def fb_X5_advance_27 (n0 : Nat) (kl4 : sx_T → Nat → Int32 → Int32 → Int32 → Option sx_T) (σ : sx_T) (t : Nat) (x1 : Int32) (x2 : Int32) (x3 : Int32) (y0 : Int32) : Option sx_T :=
  if (sx_I σ t 19) = 0 then
    if (sx_I σ t 16) = (-1) then
      if (sx_I σ t 15) = 0 then
        if (sx_I σ t 8) = 0 then
          if (sx_I σ t 14) = 0 then
            br (f_X5_step n0 σ t) fun u7 =>
            kl4 u7 t x1 x2 (x3 + 1)
          else
            br (f_X5_undo σ t) fun u10 =>
            kl4 u10 t x1 x2 (x3 + 1)
        else
          br (f_X5_takeAwaited σ t y0) fun u13 =>
          kl4 u13 t x1 y0 (x3 + 1)
      else
        kl4 (wx_I σ t 19 y0) t x1 0 (x3 + 1)
    else
      br (f_X5_takeWanted σ t y0) fun u17 =>
      kl4 u17 t x1 y0 (x3 + 1)
  else
    kl4 σ t x1 0 (x3 + 1)
def fl_X5_advance_4 (n0 : Nat) : Nat → sx_T → Nat → Int32 → Int32 → Int32 → Option sx_T
  | 0 => fun _ _ _ _ _ => none
  | n + 1 => fun σ t x1 x2 x3 =>
    if 1000000 ≤ x3 then
      some σ
    else
      if x2 = 0 then
        some σ
      else
        if x1 ≤ (sx_I σ t 4) then
          fb_X5_advance_27 n0 (fl_X5_advance_4 n0 n) σ t x1 x2 x3 0
        else
          fb_X5_advance_27 n0 (fl_X5_advance_4 n0 n) σ t x1 x2 x3 1
def f_X5_advance (n0 : Nat) (σ : sx_T) (t : Nat) (x1 : Int32) : Option sx_T :=
  fl_X5_advance_4 n0 n0 σ t x1 1 0
def f_X0_findAgain (n0 : Nat) (σ : sx_T) (t : Nat) : Option sx_T :=
  qv (sx_R σ t 2) fun w1 =>
  qv (sx_R σ t 3) fun w2 =>
  qv (sx_R σ t 1) fun w3 =>
  bq w1 fun a4 =>
  br (f_X5_begin σ a4 w2 w3) fun u6 =>
  qv (sx_R u6 t 2) fun w8 =>
  qv (sx_R u6 t 1) fun w9 =>
  bq w9 fun a10 =>
  br (f_X1_size u6 a10) fun r12 =>
  bq w8 fun a14 =>
  br (f_X5_advance n0 u6 a14 r12) fun u16 =>
  some u16
def fl_X8_crash_4 (n0 : Nat) : Nat → sx_T → Nat → Int32 → Int32 → Option (Int32 × sx_T)
  | 0 => fun _ _ _ _ => none
  | n + 1 => fun σ t x1 x2 =>
    if (sx_I σ t 7) ≤ x2 then
      some (x1, σ)
    else
      br (f_X8_flowAt σ t x2) fun r3 =>
      oc r3 (
        fl_X8_crash_4 n0 n σ t x1 (x2 + 1)
      ) fun a5 =>
        br (f_X0_hasEnded σ a5) fun r7 =>
        if r7 = 0 then
          br (f_X0_findAgain n0 σ a5) fun u11 =>
          fl_X8_crash_4 n0 n u11 t (x1 + 1) (x2 + 1)
        else
          fl_X8_crash_4 n0 n σ t x1 (x2 + 1)
def f_X8_crash (n0 : Nat) (σ : sx_T) (t : Nat) : Option (Int32 × sx_T) :=
  fl_X8_crash_4 n0 n0 σ t 0 0
def f_X8_movingTask (σ : sx_T) (t : Nat) (x1 : Int32) (x2 : Int32) : Option (Option Nat) :=
  br (f_X8_flowAt σ t x1) fun r2 =>
  oc r2 (
    some none
  ) fun a4 =>
    qv (sx_R σ a4 2) fun w5 =>
    bq w5 fun a6 =>
    if (sx_I σ a6 19) = 0 then
      qv (sx_R σ a4 7) fun w8 =>
      oc w8 (
        some none
      ) fun a9 =>
        if (sx_I σ a9 3) = x2 then
          some (some a9)
        else
          some none
    else
      some none
def f_X8_servedAt (σ : sx_T) (t : Nat) (x1 : Int32) : Option Int32 :=
  if x1 < 0 then
    some 0
  else
    qv (sx_R σ t 1) fun w2 =>
    bq w2 fun a3 =>
    if (Int32.ofNat (sx_N σ a3)) ≤ x1 then
      some 0
    else
      qv (sx_R σ t 1) fun w5 =>
      bq w5 fun a6 =>
      ck x1 (sx_N σ a6) <|
      some (sx_I σ a6 (ti x1))
def f_X8_isAhead (σ : sx_T) (t : Nat) (v1 : Option Nat) (v2 : Option Nat) : Option Int32 :=
  bq v1 fun a1 =>
  qv (sx_R σ a1 1) fun w2 =>
  bq w2 fun a3 =>
  qv (sx_R σ a3 3) fun w4 =>
  bq w4 fun a5 =>
  bq v2 fun a6 =>
  qv (sx_R σ a6 1) fun w7 =>
  bq w7 fun a8 =>
  qv (sx_R σ a8 3) fun w9 =>
  bq w9 fun a10 =>
  if (sx_I σ a5 0) = (sx_I σ a10 0) then
    if (sx_I σ a6 0) ≤ (sx_I σ a1 0) then
      some 0
    else
      some 1
  else
    br (f_X8_servedAt σ t (sx_I σ a5 0)) fun r14 =>
    br (f_X8_servedAt σ t (sx_I σ a10 0)) fun r17 =>
    if r14 < r17 then
      some 1
    else
      if r14 = r17 then
        if (sx_I σ a10 0) ≤ (sx_I σ a5 0) then
          some 0
        else
          some 1
      else
        some 0
def f_X7_run (σ : sx_T) (t : Nat) (x1 : Int32) (x2 : Int32) : Option sx_T :=
  some (wx_I (wx_I (wx_I σ t 3 1) t 5 x1) t 6 x2)
def f_X8_serve (σ : sx_T) (t : Nat) (x1 : Int32) : Option sx_T :=
  if x1 < 0 then
    some σ
  else
    qv (sx_R σ t 1) fun w2 =>
    bq w2 fun a3 =>
    if (Int32.ofNat (sx_N σ a3)) ≤ x1 then
      some σ
    else
      qv (sx_R σ t 1) fun w5 =>
      bq w5 fun a6 =>
      ck x1 (sx_N σ a6) <|
      some (wx_I σ a6 (ti x1) (sx_I σ t 9))
def fl_X8_poll_4 (n0 : Nat) : Nat → sx_T → Nat → Option Nat → Int32 → Option (Int32 × sx_T)
  | 0 => fun _ _ _ _ => none
  | n + 1 => fun σ t v1 x2 =>
    if (sx_I σ t 7) ≤ x2 then
      oc v1 (
        some ((-1), σ)
      ) fun a2 =>
        br (f_X7_run (wx_I σ t 9 ((sx_I σ t 9) + 1)) a2 ((sx_I σ t 9) + 1) ((sx_I σ t 8) + 6)) fun u5 =>
        qv (sx_R u5 a2 1) fun w7 =>
        bq w7 fun a8 =>
        qv (sx_R u5 a8 3) fun w9 =>
        bq w9 fun a10 =>
        br (f_X8_serve u5 t (sx_I u5 a10 0)) fun u12 =>
        some (sx_I u12 t 9, u12)
    else
      br (f_X8_movingTask σ t x2 0) fun r15 =>
      oc r15 (
        fl_X8_poll_4 n0 n σ t v1 (x2 + 1)
      ) fun a17 =>
        oc v1 (
          fl_X8_poll_4 n0 n σ t (some a17) (x2 + 1)
        ) fun a18 =>
          br (f_X8_isAhead σ t (some a17) (some a18)) fun r20 =>
          if r20 = 0 then
            fl_X8_poll_4 n0 n σ t (some a18) (x2 + 1)
          else
            fl_X8_poll_4 n0 n σ t (some a17) (x2 + 1)
def f_X8_poll (n0 : Nat) (σ : sx_T) (t : Nat) : Option (Int32 × sx_T) :=
  fl_X8_poll_4 n0 n0 σ t none 0
def fl_X8_runningTask_2 (n0 : Nat) : Nat → sx_T → Nat → Int32 → Int32 → Option (Option Nat)
  | 0 => fun _ _ _ _ => none
  | n + 1 => fun σ t x1 x2 =>
    if (sx_I σ t 7) ≤ x2 then
      some none
    else
      br (f_X8_movingTask σ t x2 1) fun r3 =>
      oc r3 (
        fl_X8_runningTask_2 n0 n σ t x1 (x2 + 1)
      ) fun a5 =>
        if (sx_I σ a5 5) = x1 then
          some (some a5)
        else
          fl_X8_runningTask_2 n0 n σ t x1 (x2 + 1)
def f_X8_runningTask (n0 : Nat) (σ : sx_T) (t : Nat) (x1 : Int32) : Option (Option Nat) :=
  fl_X8_runningTask_2 n0 n0 σ t x1 0
def f_X7_close (σ : sx_T) (t : Nat) : Option sx_T :=
  qv (sx_R σ t 1) fun w3 =>
  bq w3 fun a4 =>
  some (wx_R (wx_I (wx_I σ t 3 3) t 6 0) a4 7 none)
def f_X1_add (σ : sx_T) (t : Nat) (x1 : Int32) (x2 : Int64) : Option sx_T :=
  if (sx_I σ t 2) < 0 then
    some σ
  else
    qv (sx_R σ t 0) fun w2 =>
    bq w2 fun a3 =>
    if (Int32.ofNat (sx_N σ a3)) ≤ (sx_I σ t 2) then
      some σ
    else
      qv (sx_R σ t 1) fun w5 =>
      bq w5 fun a6 =>
      if (Int32.ofNat (sx_N σ a6)) ≤ (sx_I σ t 2) then
        some σ
      else
        qv (sx_R σ t 0) fun w8 =>
        bq w8 fun a9 =>
        ck (sx_I σ t 2) (sx_N σ a9) <|
        qv (sx_R σ t 1) fun w12 =>
        bq w12 fun a13 =>
        ck (sx_I σ t 2) (sx_N σ a13) <|
        some (wx_I (wx_J (wx_I σ a9 (ti (sx_I σ t 2)) x1.toInt8.toInt32.toInt8.toInt32) a13 (ti (sx_I σ t 2)) x2) t 2 ((sx_I σ t 2) + 1))
def f_X7_finish (σ : sx_T) (t : Nat) (x1 : Int32) (x2 : Int32) : Option sx_T :=
  br (f_X7_close σ t) fun u2 =>
  qv (sx_R u2 t 1) fun w4 =>
  bq w4 fun a5 =>
  qv (sx_R u2 a5 1) fun w6 =>
  bq w6 fun a7 =>
  br (f_X1_add u2 a7 x1 x2.toInt64) fun u9 =>
  some u9
def f_X7_loseTry (σ : sx_T) (t : Nat) (x1 : Int32) : Option sx_T :=
  if ((sx_I σ t 4) + 1) < 3 then
    some (wx_I (wx_I (wx_I σ t 4 ((sx_I σ t 4) + 1)) t 3 2) t 6 (x1 + (1 <<< (((sx_I σ t 4) + 1) &&& 31))))
  else
    br (f_X7_finish (wx_I σ t 4 ((sx_I σ t 4) + 1)) t 3 0) fun u6 =>
    some u6
def f_X2_addLast (σ : sx_T) (t : Nat) (v1 : Option Nat) : Option sx_T :=
  oc v1 (
    some σ
  ) fun a1 =>
    if (sx_I σ t 2) < 0 then
      some σ
    else
      qv (sx_R σ t 0) fun w3 =>
      bq w3 fun a4 =>
      if (Int32.ofNat (sx_N σ a4)) ≤ (sx_I σ t 2) then
        some σ
      else
        qv (sx_R σ t 0) fun w6 =>
        bq w6 fun a7 =>
        ck (sx_I σ t 2) (sx_N σ a7) <|
        some (wx_I (wx_R σ a7 (ti (sx_I σ t 2)) (some a1)) t 2 ((sx_I σ t 2) + 1))
def f_X2_isEmpty (σ : sx_T) (t : Nat) : Option Int32 :=
  if (sx_I σ t 1) < (sx_I σ t 2) then
    some 0
  else
    some 1
def fb_X2_removeFirst_30 (σ : sx_T) (t : Nat) : Option (Option Nat × sx_T) :=
  some (none, (wx_I (wx_I σ t 1 0) t 2 0))
def f_X2_removeFirst (σ : sx_T) (t : Nat) : Option (Option Nat × sx_T) :=
  if (sx_I σ t 1) < 0 then
    fb_X2_removeFirst_30 σ t
  else
    if (sx_I σ t 2) ≤ (sx_I σ t 1) then
      fb_X2_removeFirst_30 σ t
    else
      qv (sx_R σ t 0) fun w3 =>
      bq w3 fun a4 =>
      if (sx_I σ t 1) < (Int32.ofNat (sx_N σ a4)) then
        qv (sx_R σ t 0) fun w6 =>
        bq w6 fun a7 =>
        ck (sx_I σ t 1) (sx_N σ a7) <|
        qv (sx_R σ a7 (ti (sx_I σ t 1))) fun w9 =>
        some (w9, (wx_I σ t 1 ((sx_I σ t 1) + 1)))
      else
        fb_X2_removeFirst_30 σ t
def f_X2_last (σ : sx_T) (t : Nat) : Option (Option Nat) :=
  if ((sx_I σ t 2) - 1) < (sx_I σ t 1) then
    some none
  else
    if ((sx_I σ t 2) - 1) < 0 then
      some none
    else
      qv (sx_R σ t 0) fun w3 =>
      bq w3 fun a4 =>
      if (Int32.ofNat (sx_N σ a4)) ≤ ((sx_I σ t 2) - 1) then
        some none
      else
        qv (sx_R σ t 0) fun w6 =>
        bq w6 fun a7 =>
        ck ((sx_I σ t 2) - 1) (sx_N σ a7) <|
        qv (sx_R σ a7 (ti ((sx_I σ t 2) - 1))) fun w9 =>
        some w9
def f_X5_waitsForActivity (σ : sx_T) (t : Nat) : Option Int32 :=
  if (sx_I σ t 8) = 1 then
    some 1
  else
    if (sx_I σ t 8) = 6 then
      some 1
    else
      some 0
def f_X0_letGo (σ : sx_T) (t : Nat) : Option sx_T :=
  qv (sx_R σ t 7) fun w1 =>
  oc w1 (
    some σ
  ) fun a2 =>
    qv (sx_R σ t 2) fun w3 =>
    bq w3 fun a4 =>
    if (sx_I σ a4 19) = 0 then
      qv (sx_R σ t 2) fun w6 =>
      bq w6 fun a7 =>
      br (f_X5_waitsForActivity σ a7) fun r9 =>
      if r9 = 0 then
        br (f_X7_close σ a2) fun u13 =>
        some u13
      else
        some σ
    else
      some σ
def f_X5_wantsEvent (σ : sx_T) (t : Nat) : Option Int32 :=
  if (sx_I σ t 19) = 0 then
    if (sx_I σ t 16) = (-1) then
      some 0
    else
      some 1
  else
    some 0
def f_X8_programAt (σ : sx_T) (t : Nat) (x1 : Int32) : Option (Option Nat) :=
  if x1 < 0 then
    some none
  else
    qv (sx_R σ t 0) fun w2 =>
    bq w2 fun a3 =>
    if (Int32.ofNat (sx_N σ a3)) ≤ x1 then
      some none
    else
      qv (sx_R σ t 0) fun w5 =>
      bq w5 fun a6 =>
      ck x1 (sx_N σ a6) <|
      qv (sx_R σ a6 (ti x1)) fun w8 =>
      some w8
def fb_X8_open_83 (σ : sx_T) (v1 : Option Nat) (x2 : Int32) (v5 : Option Nat) (y0 : Int32) (w1_ : Option Nat) : Option (Option Nat × sx_T) :=
  bq w1_ fun a1 =>
  bq v5 fun a3 =>
  qv (sx_R σ a3 1) fun w4 =>
  bq w4 fun a5 =>
  br (f_X1_add (wx_I σ a1 5 y0) a5 0 x2.toInt64) fun u7 =>
  qv (sx_R u7 a3 2) fun w9 =>
  qv (sx_R u7 a3 1) fun w10 =>
  bq w9 fun a11 =>
  br (f_X5_begin u7 a11 v1 w10) fun u13 =>
  some ((some a3), u13)
def f_X8_open (σ : sx_T) (t : Nat) (v1 : Option Nat) (x2 : Int32) (x3 : Int32) (x4 : Int32) : Option (Option Nat × sx_T) :=
  oc v1 (
    some (none, σ)
  ) fun a1 =>
    if (sx_I σ t 7) < 0 then
      some (none, σ)
    else
      qv (sx_R σ t 2) fun w3 =>
      bq w3 fun a4 =>
      if (sx_I σ t 7) < (Int32.ofNat (sx_N σ a4)) then
        qv (sx_R σ t 2) fun w6 =>
        bq w6 fun a7 =>
        ck (sx_I σ t 7) (sx_N σ a7) <|
        qv (sx_R σ a7 (ti (sx_I σ t 7))) fun w9 =>
        oc w9 (
          some (none, σ)
        ) fun a10 =>
          if x4 = (-1) then
            fb_X8_open_83 (wx_I (wx_R (wx_I σ t 7 ((sx_I σ t 7) + 1)) a10 3 (some a1)) a10 4 x3) (some a1) x2 (some a10) (sx_I σ a10 0) (some a10)
          else
            fb_X8_open_83 (wx_I (wx_R (wx_I σ t 7 ((sx_I σ t 7) + 1)) a10 3 (some a1)) a10 4 x3) (some a1) x2 (some a10) x4 (some a10)
      else
        some (none, σ)
def f_X8_launch (σ : sx_T) (t : Nat) (v1 : Option Nat) (x2 : Int32) (x3 : Int32) : Option (Option Nat × sx_T) :=
  if x2 = 7 then
    br (f_X8_programAt σ t x3) fun r3 =>
    bq v1 fun a5 =>
    qv (sx_R σ a5 2) fun w6 =>
    bq w6 fun a7 =>
    bd (f_X8_open σ t r3 (sx_I σ a7 6) (sx_I σ a5 0) (-1)) fun r9 u10 =>
    some (r9, u10)
  else
    if x3 = (-1) then
      bq v1 fun a13 =>
      qv (sx_R σ a13 3) fun w14 =>
      qv (sx_R σ a13 2) fun w15 =>
      bq w15 fun a16 =>
      bd (f_X8_open σ t w14 (sx_I σ a16 6) (sx_I σ a13 4) (sx_I σ a13 5)) fun r18 u19 =>
      oc r18 (
        some (none, u19)
      ) fun a21 =>
        some ((some a21), (wx_I u19 a13 6 (sx_I u19 a21 0)))
    else
      br (f_X8_programAt σ t x3) fun r24 =>
      bq v1 fun a26 =>
      qv (sx_R σ a26 2) fun w27 =>
      bq w27 fun a28 =>
      bd (f_X8_open σ t r24 (sx_I σ a28 6) (-1) (-1)) fun r30 u31 =>
      some (r30, u31)
def f_Jx4a65c_size_8abf5 (σ : sx_T) (t : Nat) : Option Int32 :=
  some (sx_I σ t 2)
def f_X7_init (σ : sx_T) (t : Nat) (x1 : Int32) (v2 : Option Nat) (x3 : Int32) : Option sx_T :=
  some (wx_I (wx_R (wx_I (wx_I σ t 3 0) t 0 x1) t 1 v2) t 2 x3)
def fb_J8_newLength_cabcc_21 (σ : sx_T) (x0 : Int32) (x1 : Int32) : Option Int32 :=
  none
def f_J8_newLength_cabcc (σ : sx_T) (x0 : Int32) (x1 : Int32) (x2 : Int32) : Option Int32 :=
  br (f_J9_max_7cf53 σ x1 x2) fun r2 =>
  if (x0 + r2) ≤ 0 then
    fb_J8_newLength_cabcc_21 σ x0 x1
  else
    if 2147483639 < (x0 + r2) then
      fb_J8_newLength_cabcc_21 σ x0 x1
    else
      some (x0 + r2)
def fb_Jx4a65c_grow_92f84_20 (σ : sx_T) (t : Nat) (x1 : Int32) (x2 : Int32) : Option (Option Nat × sx_T) :=
  br (f_J8_newLength_cabcc σ x2 (x1 - x2) (x2 >>> (1 &&& 31))) fun r2 =>
  qv (sx_R σ t 1) fun w4 =>
  bd (f_copyOf σ w4 r2) fun r6 u7 =>
  some (r6, (wx_R u7 t 1 r6))
def f_Jx4a65c_grow_92f84 (σ : sx_T) (t : Nat) (x1 : Int32) : Option (Option Nat × sx_T) :=
  qv (sx_R σ t 1) fun w1 =>
  bq w1 fun a2 =>
  if 0 < (Int32.ofNat (lenE σ a2)) then
    fb_Jx4a65c_grow_92f84_20 σ t x1 (Int32.ofNat (lenE σ a2))
  else
    qv (sx_R σ t 1) fun w4 =>
    bq w4 fun a5 =>
    if sx_K σ a5 = 17 then
      fb_Jx4a65c_grow_92f84_20 σ t x1 (Int32.ofNat (lenE σ a2))
    else
      br (f_J9_max_7cf53 σ 10 x1) fun r8 =>
      lim r8 <|
      qn (sx_Z σ) fun a10 =>
      some ((some a10), (wx_R (wx_N σ 17 (ti r8)) t 1 (some a10)))
def f_Jx4a65c_grow_d5877 (σ : sx_T) (t : Nat) : Option (Option Nat × sx_T) :=
  bd (f_Jx4a65c_grow_92f84 σ t ((sx_I σ t 2) + 1)) fun r2 u3 =>
  some (r2, u3)
def fb_Jx4a65c_add_72be8_11 (σ : sx_T) (t : Nat) (v1 : Option Nat) (v2 : Option Nat) (x3 : Int32) : Option sx_T :=
  bq v2 fun a1 =>
  gk σ a1 17 <|
  ck x3 (sx_N σ a1) <|
  some (wx_I (wx_R σ a1 (ti x3) v1) t 2 (x3 + 1))
def f_Jx4a65c_add_72be8 (σ : sx_T) (t : Nat) (v1 : Option Nat) (v2 : Option Nat) (x3 : Int32) : Option sx_T :=
  bq v2 fun a1 =>
  if x3 = (Int32.ofNat (lenE σ a1)) then
    bd (f_Jx4a65c_grow_d5877 σ t) fun r4 u5 =>
    fb_Jx4a65c_add_72be8_11 u5 t v1 r4 x3
  else
    fb_Jx4a65c_add_72be8_11 σ t v1 (some a1) x3
def f_Jx4a65c_add_9ea2d (σ : sx_T) (t : Nat) (v1 : Option Nat) : Option (Int32 × sx_T) :=
  qv (sx_R σ t 1) fun w2 =>
  br (f_Jx4a65c_add_72be8 (wx_I σ t 0 ((sx_I σ t 0) + 1)) t v1 w2 (sx_I σ t 2)) fun u4 =>
  some (1, u4)
def f_X8_schedule (σ : sx_T) (t : Nat) (v1 : Option Nat) (x2 : Int32) : Option sx_T :=
  qn (sx_Z σ) fun a1 =>
  qv (sx_R (wx_N σ 9 0) t 3) fun w2 =>
  bq w2 fun a3 =>
  br (f_Jx4a65c_size_8abf5 (wx_N σ 9 0) a3) fun r5 =>
  br (f_X7_init (wx_N σ 9 0) a1 r5 v1 x2) fun u8 =>
  qv (sx_R u8 t 3) fun w10 =>
  bq w10 fun a11 =>
  bd (f_Jx4a65c_add_9ea2d u8 a11 (some a1)) fun r13 u14 =>
  bq v1 fun a16 =>
  some (wx_R u14 a16 7 (some a1))
def f_X8_draw (σ : sx_T) (t : Nat) (x1 : Int32) : Option (Int32 × sx_T) :=
  if 0 ≤ x1 then
    nz (x1 + 1) <|
    some (jrem (jrem ((75 * (sx_I σ t 10)) + 74) 65537) (x1 + 1), (wx_I σ t 10 (jrem ((75 * (sx_I σ t 10)) + 74) 65537)))
  else
    some (0, (wx_I σ t 10 (jrem ((75 * (sx_I σ t 10)) + 74) 65537)))
def f_X0_waitsForChild (σ : sx_T) (t : Nat) (x1 : Int32) : Option Int32 :=
  qv (sx_R σ t 2) fun w1 =>
  bq w1 fun a2 =>
  if (sx_I σ a2 19) = 0 then
    qv (sx_R σ t 2) fun w4 =>
    bq w4 fun a5 =>
    if (sx_I σ a5 8) = 5 then
      qv (sx_R σ t 2) fun w7 =>
      bq w7 fun a8 =>
      if (sx_I σ a8 10) = x1 then
        some 1
      else
        some 0
    else
      some 0
  else
    some 0
def f_X8_tellParent (σ : sx_T) (t : Nat) (v1 : Option Nat) (x2 : Int64) : Option sx_T :=
  bq v1 fun a1 =>
  br (f_X8_flowAt σ t (sx_I σ a1 4)) fun r3 =>
  oc r3 (
    some σ
  ) fun a5 =>
    qv (sx_R σ a1 1) fun w6 =>
    bq w6 fun a7 =>
    br (f_X1_ending σ a7) fun r9 =>
    if r9 = 4 then
      some σ
    else
      br (f_X0_waitsForChild σ a5 (sx_I σ a1 5)) fun r13 =>
      if r13 = 0 then
        some σ
      else
        qv (sx_R σ a5 1) fun w16 =>
        bq w16 fun a17 =>
        br (f_X1_add σ a17 8 x2) fun u19 =>
        qv (sx_R u19 t 5) fun w21 =>
        bq w21 fun a22 =>
        br (f_X2_addLast u19 a22 (some a5)) fun u24 =>
        some u24
def fb_X8_make_113 (σ : sx_T) (t : Nat) (v1 : Option Nat) (x2 : Int32) (x3 : Int64) (v5 : Option Nat) : Option (Option Nat × sx_T) :=
  bq v1 fun a1 =>
  qv (sx_R σ a1 1) fun w2 =>
  bq w2 fun a3 =>
  br (f_X1_add σ a3 x2 x3) fun u5 =>
  if x2 = 13 then
    br (f_X8_tellParent u5 t (some a1) x3) fun u9 =>
    some (v5, u9)
  else
    some (v5, u5)
def fb_X8_make_73 (σ : sx_T) (t : Nat) (v1 : Option Nat) (x2 : Int32) (x3 : Int64) (v5 : Option Nat) : Option (Option Nat × sx_T) :=
  br (f_X8_schedule σ t v1 x3.toInt32) fun u2 =>
  fb_X8_make_113 u2 t v1 x2 x3 v5
def fb_X8_make_58 (σ : sx_T) (t : Nat) (v1 : Option Nat) (x2 : Int32) (v5 : Option Nat) (y0 : Int64) : Option (Option Nat × sx_T) :=
  fb_X8_make_113 σ t v1 x2 y0 v5
def fb_X8_make_31 (σ : sx_T) (t : Nat) (v1 : Option Nat) (x2 : Int32) (x3 : Int64) : Option (Option Nat × sx_T) :=
  bd (f_X8_launch σ t v1 x2 x3.toInt32) fun r2 u3 =>
  oc r2 (
    fb_X8_make_58 u3 t v1 x2 none (-1)
  ) fun a5 =>
    fb_X8_make_58 u3 t v1 x2 (some a5) ((sx_I u3 a5 0).toInt64)
def f_X8_make (σ : sx_T) (t : Nat) (v1 : Option Nat) : Option (Option Nat × sx_T) :=
  bq v1 fun a1 =>
  qv (sx_R σ a1 2) fun w2 =>
  bq w2 fun a3 =>
  qv (sx_R σ a1 2) fun w4 =>
  bq w4 fun a5 =>
  if (sx_I σ a3 16) = 7 then
    fb_X8_make_31 σ t (some a1) (sx_I σ a3 16) (sx_J σ a5 17)
  else
    if (sx_I σ a3 16) = 14 then
      fb_X8_make_31 σ t (some a1) (sx_I σ a3 16) (sx_J σ a5 17)
    else
      if (sx_I σ a3 16) = 1 then
        fb_X8_make_73 σ t (some a1) (sx_I σ a3 16) (sx_J σ a5 17) none
      else
        if (sx_I σ a3 16) = 11 then
          fb_X8_make_73 σ t (some a1) (sx_I σ a3 16) (sx_J σ a5 17) none
        else
          if (sx_I σ a3 16) = 4 then
            fb_X8_make_113 σ t (some a1) (sx_I σ a3 16) (((sx_I σ t 8).toInt64) + (sx_J σ a5 17)) none
          else
            if (sx_I σ a3 16) = 9 then
              bd (f_X8_draw σ t ((sx_J σ a5 17).toInt32)) fun r13 u14 =>
              fb_X8_make_113 u14 t (some a1) (sx_I σ a3 16) r13.toInt64 none
            else
              fb_X8_make_113 σ t (some a1) (sx_I σ a3 16) (sx_J σ a5 17) none
def f_X2_removeLast (σ : sx_T) (t : Nat) : Option sx_T :=
  if (sx_I σ t 2) ≤ (sx_I σ t 1) then
    some σ
  else
    some (wx_I σ t 2 ((sx_I σ t 2) - 1))
def fl_X8_holder_8 (n0 : Nat) : Nat → sx_T → Nat → Option Nat → Int32 → Option (Option Nat)
  | 0 => fun _ _ _ _ => none
  | n + 1 => fun σ t v2 x3 =>
    if 40 ≤ x3 then
      some v2
    else
      oc v2 (
        some none
      ) fun a2 =>
        if (sx_I σ a2 6) = (-1) then
          some (some a2)
        else
          br (f_X8_flowAt σ t (sx_I σ a2 6)) fun r5 =>
          fl_X8_holder_8 n0 n σ t r5 (x3 + 1)
def f_X8_holder (n0 : Nat) (σ : sx_T) (t : Nat) (x1 : Int32) : Option (Option Nat) :=
  br (f_X8_flowAt σ t x1) fun r2 =>
  fl_X8_holder_8 n0 n0 σ t r2 0
def f_X0_canReceive (σ : sx_T) (t : Nat) : Option Int32 :=
  br (f_X0_hasEnded σ t) fun r2 =>
  if r2 = 0 then
    qv (sx_R σ t 1) fun w5 =>
    bq w5 fun a6 =>
    br (f_X1_size σ a6) fun r8 =>
    if 90 ≤ r8 then
      some 0
    else
      some 1
  else
    some 0
def fb_X8_leave_68 (n0 : Nat) (σ : sx_T) (t : Nat) (w0_ : Option Nat) : Option sx_T :=
  oc w0_ (
    some σ
  ) fun a1 =>
    br (f_X0_canReceive σ a1) fun r3 =>
    if r3 = 0 then
      some σ
    else
      qv (sx_R σ a1 1) fun w6 =>
      bq w6 fun a7 =>
      br (f_X1_add σ a7 12 0) fun u9 =>
      qv (sx_R u9 t 4) fun w11 =>
      bq w11 fun a12 =>
      br (f_X2_addLast u9 a12 (some a1)) fun u14 =>
      some u14
def fb_X8_leave_37 (n0 : Nat) (σ : sx_T) (t : Nat) (v1 : Option Nat) (y0 : Int32) : Option sx_T :=
  bq v1 fun a1 =>
  qv (sx_R σ a1 1) fun w2 =>
  bq w2 fun a3 =>
  br (f_X1_size σ a3) fun r5 =>
  if y0 = 0 then
    fb_X8_leave_68 n0 (wx_I σ a1 8 r5) t none
  else
    qv (sx_R σ a1 2) fun w9 =>
    bq w9 fun a10 =>
    br (f_X8_holder n0 (wx_I σ a1 8 r5) t (sx_I σ a10 10)) fun r12 =>
    fb_X8_leave_68 n0 (wx_I σ a1 8 r5) t r12
def f_X8_leave (n0 : Nat) (σ : sx_T) (t : Nat) (v1 : Option Nat) : Option sx_T :=
  qv (sx_R σ t 4) fun w1 =>
  bq w1 fun a2 =>
  br (f_X2_removeLast σ a2) fun u4 =>
  bq v1 fun a6 =>
  qv (sx_R u4 a6 2) fun w7 =>
  bq w7 fun a8 =>
  if (sx_I u4 a8 19) = 0 then
    qv (sx_R u4 a6 2) fun w10 =>
    bq w10 fun a11 =>
    if (sx_I u4 a11 18) < (sx_I u4 a6 8) then
      fb_X8_leave_37 n0 u4 t (some a6) 0
    else
      fb_X8_leave_37 n0 u4 t (some a6) 1
  else
    some u4
def fb_X8_goOn_41 (n0 : Nat) (kl10 : sx_T → Nat → Int32 → Option sx_T) (σ : sx_T) (t : Nat) (x2 : Int32) : Option sx_T :=
  qv (sx_R σ t 4) fun w1 =>
  bq w1 fun a2 =>
  br (f_X2_last σ a2) fun r4 =>
  oc r4 (
    some σ
  ) fun a6 =>
    qv (sx_R σ a6 2) fun w7 =>
    qv (sx_R σ a6 1) fun w8 =>
    bq w8 fun a9 =>
    br (f_X1_size σ a9) fun r11 =>
    bq w7 fun a13 =>
    br (f_X5_advance n0 σ a13 r11) fun u15 =>
    br (f_X0_letGo u15 a6) fun u18 =>
    qv (sx_R u18 a6 2) fun w20 =>
    bq w20 fun a21 =>
    br (f_X5_wantsEvent u18 a21) fun r23 =>
    if r23 = 0 then
      br (f_X8_leave n0 u18 t (some a6)) fun u27 =>
      kl10 u27 t (x2 + 1)
    else
      bd (f_X8_make u18 t (some a6)) fun r30 u31 =>
      qv (sx_R u31 a6 2) fun w33 =>
      qv (sx_R u31 a6 1) fun w34 =>
      bq w34 fun a35 =>
      br (f_X1_size u31 a35) fun r37 =>
      bq w33 fun a39 =>
      br (f_X5_advance n0 u31 a39 r37) fun u41 =>
      qv (sx_R u41 t 4) fun w43 =>
      bq w43 fun a44 =>
      br (f_X2_addLast u41 a44 r30) fun u46 =>
      kl10 u46 t (x2 + 1)
def fl_X8_goOn_10 (n0 : Nat) : Nat → sx_T → Nat → Int32 → Option sx_T
  | 0 => fun _ _ _ => none
  | n + 1 => fun σ t x2 =>
    if 1000000 ≤ x2 then
      some σ
    else
      qv (sx_R σ t 4) fun w2 =>
      bq w2 fun a3 =>
      br (f_X2_isEmpty σ a3) fun r5 =>
      if r5 = 0 then
        fb_X8_goOn_41 n0 (fl_X8_goOn_10 n0 n) σ t x2
      else
        qv (sx_R σ t 4) fun w8 =>
        qv (sx_R σ t 5) fun w9 =>
        bq w9 fun a10 =>
        bd (f_X2_removeFirst σ a10) fun r12 u13 =>
        bq w8 fun a15 =>
        br (f_X2_addLast u13 a15 r12) fun u17 =>
        fb_X8_goOn_41 n0 (fl_X8_goOn_10 n0 n) u17 t x2
def f_X8_goOn (n0 : Nat) (σ : sx_T) (t : Nat) (v1 : Option Nat) : Option sx_T :=
  qv (sx_R σ t 4) fun w1 =>
  bq w1 fun a2 =>
  br (f_X2_addLast σ a2 v1) fun u4 =>
  fl_X8_goOn_10 n0 n0 u4 t 0
def f_X8_fail (n0 : Nat) (σ : sx_T) (t : Nat) (x1 : Int32) : Option (Int32 × sx_T) :=
  br (f_X8_runningTask n0 σ t x1) fun r2 =>
  oc r2 (
    some (0, σ)
  ) fun a4 =>
    br (f_X7_loseTry σ a4 (sx_I σ t 8)) fun u6 =>
    qv (sx_R u6 a4 1) fun w8 =>
    br (f_X8_goOn n0 u6 t w8) fun u10 =>
    some (1, u10)
def f_X8_beat (n0 : Nat) (σ : sx_T) (t : Nat) (x1 : Int32) : Option (Int32 × sx_T) :=
  br (f_X8_runningTask n0 σ t x1) fun r2 =>
  oc r2 (
    some (0, σ)
  ) fun a4 =>
    some (1, (wx_I σ a4 6 ((sx_I σ t 8) + 6)))
def f_X8_workflows (σ : sx_T) (t : Nat) : Option Int32 :=
  some (sx_I σ t 7)
def f_X8_tasks (σ : sx_T) (t : Nat) : Option Int32 :=
  qv (sx_R σ t 3) fun w1 =>
  bq w1 fun a2 =>
  br (f_Jx4a65c_size_8abf5 σ a2) fun r4 =>
  some r4
def f_X8_now (σ : sx_T) (t : Nat) : Option Int32 :=
  some (sx_I σ t 8)
def f_X8_isBelow (σ : sx_T) (x0 : Int32) (x1 : Int32) : Option Int32 :=
  if x0 < 0 then
    some 0
  else
    if x1 ≤ x0 then
      some 0
    else
      some 1
def f_X8_isStep (σ : sx_T) (x0 : Int32) (x1 : Int32) (x2 : Int32) : Option Int32 :=
  br (f_X8_isBelow σ x0 18) fun r2 =>
  if r2 = 0 then
    some 0
  else
    br (f_X8_isBelow σ x1 100) fun r6 =>
    if r6 = 0 then
      some 0
    else
      br (f_X8_isBelow σ x2 100) fun r10 =>
      if r10 = 0 then
        some 0
      else
        some 1
def f_X4_put (σ : sx_T) (t : Nat) (x1 : Int32) (x2 : Int32) (x3 : Int32) (x4 : Int32) : Option sx_T :=
  if x1 < 0 then
    some σ
  else
    qv (sx_R σ t 1) fun w2 =>
    bq w2 fun a3 =>
    if (Int32.ofNat (sx_N σ a3)) ≤ x1 then
      some σ
    else
      qv (sx_R σ t 2) fun w5 =>
      bq w5 fun a6 =>
      if (Int32.ofNat (sx_N σ a6)) ≤ x1 then
        some σ
      else
        qv (sx_R σ t 3) fun w8 =>
        bq w8 fun a9 =>
        if (Int32.ofNat (sx_N σ a9)) ≤ x1 then
          some σ
        else
          qv (sx_R σ t 1) fun w11 =>
          bq w11 fun a12 =>
          ck x1 (sx_N σ a12) <|
          qv (sx_R σ t 2) fun w15 =>
          bq w15 fun a16 =>
          ck x1 (sx_N σ a16) <|
          qv (sx_R σ t 3) fun w19 =>
          bq w19 fun a20 =>
          ck x1 (sx_N σ a20) <|
          some (wx_I (wx_I (wx_I σ a12 (ti x1) x2) a16 (ti x1) x3) a20 (ti x1) x4)
def fl_X8_findAgain_2 (n0 : Nat) : Nat → sx_T → Nat → Option Nat → Int32 → Option sx_T
  | 0 => fun _ _ _ _ => none
  | n + 1 => fun σ t v1 x2 =>
    if (sx_I σ t 7) ≤ x2 then
      some σ
    else
      br (f_X8_flowAt σ t x2) fun r3 =>
      oc r3 (
        fl_X8_findAgain_2 n0 n σ t v1 (x2 + 1)
      ) fun a5 =>
        qv (sx_R σ a5 3) fun w6 =>
        if w6 = v1 then
          br (f_X0_hasEnded σ a5) fun r9 =>
          if r9 = 0 then
            br (f_X0_findAgain n0 σ a5) fun u13 =>
            fl_X8_findAgain_2 n0 n u13 t v1 (x2 + 1)
          else
            fl_X8_findAgain_2 n0 n σ t v1 (x2 + 1)
        else
          fl_X8_findAgain_2 n0 n σ t v1 (x2 + 1)
def f_X8_findAgain (n0 : Nat) (σ : sx_T) (t : Nat) (v1 : Option Nat) : Option sx_T :=
  fl_X8_findAgain_2 n0 n0 σ t v1 0
def fl_X8_countAstray_4 (n0 : Nat) : Nat → sx_T → Nat → Option Nat → Int32 → Int32 → Option Int32
  | 0 => fun _ _ _ _ _ => none
  | n + 1 => fun σ t v1 x2 x3 =>
    if (sx_I σ t 7) ≤ x3 then
      some x2
    else
      br (f_X8_flowAt σ t x3) fun r3 =>
      oc r3 (
        fl_X8_countAstray_4 n0 n σ t v1 x2 (x3 + 1)
      ) fun a5 =>
        qv (sx_R σ a5 3) fun w6 =>
        if w6 = v1 then
          br (f_X0_hasEnded σ a5) fun r9 =>
          if r9 = 0 then
            qv (sx_R σ a5 2) fun w12 =>
            bq w12 fun a13 =>
            if (sx_I σ a13 19) = 0 then
              fl_X8_countAstray_4 n0 n σ t v1 x2 (x3 + 1)
            else
              fl_X8_countAstray_4 n0 n σ t v1 (x2 + 1) (x3 + 1)
          else
            fl_X8_countAstray_4 n0 n σ t v1 x2 (x3 + 1)
        else
          fl_X8_countAstray_4 n0 n σ t v1 x2 (x3 + 1)
def f_X8_countAstray (n0 : Nat) (σ : sx_T) (t : Nat) (v1 : Option Nat) : Option Int32 :=
  fl_X8_countAstray_4 n0 n0 σ t v1 0 0
def fl_X8_set_72 (n0 : Nat) : Nat → sx_T → Nat → Option Nat → Int32 → Option ((Sum Int32 String) × sx_T)
  | 0 => fun _ _ _ _ => none
  | n + 1 => fun σ t v6 x7 =>
    if (sx_I σ t 7) ≤ x7 then
      br (f_X8_countAstray n0 σ t v6) fun r3 =>
      some (.inl r3, σ)
    else
      br (f_X8_flowAt σ t x7) fun r6 =>
      oc r6 (
        fl_X8_set_72 n0 n σ t v6 (x7 + 1)
      ) fun a8 =>
        qv (sx_R σ a8 3) fun w9 =>
        if w9 = v6 then
          br (f_X0_hasEnded σ a8) fun r12 =>
          if r12 = 0 then
            br (f_X8_goOn n0 σ t (some a8)) fun u16 =>
            fl_X8_set_72 n0 n u16 t v6 (x7 + 1)
          else
            fl_X8_set_72 n0 n σ t v6 (x7 + 1)
        else
          fl_X8_set_72 n0 n σ t v6 (x7 + 1)
def fb_X8_set_21 (n0 : Nat) (σ : sx_T)  : Option ((Sum Int32 String) × sx_T) :=
  some (.inr "java/lang/IndexOutOfBoundsException", σ)
def f_X8_set (n0 : Nat) (σ : sx_T) (t : Nat) (x1 : Int32) (x2 : Int32) (x3 : Int32) (x4 : Int32) (x5 : Int32) : Option ((Sum Int32 String) × sx_T) :=
  br (f_X8_programAt σ t x1) fun r2 =>
  oc r2 (
    fb_X8_set_21 n0 σ 
  ) fun a4 =>
    br (f_X8_isBelow σ x2 20) fun r6 =>
    if r6 = 0 then
      fb_X8_set_21 n0 σ 
    else
      br (f_X8_isStep σ x3 x4 x5) fun r10 =>
      if r10 = 0 then
        some (.inr "java/lang/IllegalArgumentException", σ)
      else
        br (f_X4_put σ a4 x2 x3 x4 x5) fun u14 =>
        br (f_X8_findAgain n0 u14 t (some a4)) fun u17 =>
        fl_X8_set_72 n0 n0 u17 t (some a4) 0
def f_X8_replayed (n0 : Nat) (σ : sx_T) (t : Nat) (v1 : Option Nat) : Option (Option Nat × sx_T) :=
  qv (sx_R σ t 6) fun w1 =>
  bq v1 fun a2 =>
  qv (sx_R σ a2 3) fun w3 =>
  qv (sx_R σ a2 1) fun w4 =>
  bq w1 fun a5 =>
  br (f_X5_begin σ a5 w3 w4) fun u7 =>
  qv (sx_R u7 t 6) fun w9 =>
  qv (sx_R u7 a2 1) fun w10 =>
  bq w10 fun a11 =>
  br (f_X1_size u7 a11) fun r13 =>
  bq w9 fun a15 =>
  br (f_X5_advance n0 u7 a15 r13) fun u17 =>
  qv (sx_R u17 t 6) fun w19 =>
  some (w19, u17)
def fl_X8_check_93 (n0 : Nat) : Nat → sx_T → Nat → Int32 → Option Nat → Int32 → Int32 → Int32 → Int32 → Int32 → Option ((Sum Int32 String) × sx_T)
  | 0 => fun _ _ _ _ _ _ _ _ _ => none
  | n + 1 => fun σ t x2 v6 x7 x8 x9 x10 x11 =>
    if (sx_I σ t 7) ≤ x11 then
      bq v6 fun a2 =>
      br (f_X4_put σ a2 x2 x7 x8 x9) fun u4 =>
      some (.inl x10, u4)
    else
      br (f_X8_flowAt σ t x11) fun r7 =>
      oc r7 (
        fl_X8_check_93 n0 n σ t x2 v6 x7 x8 x9 x10 (x11 + 1)
      ) fun a9 =>
        qv (sx_R σ a9 3) fun w10 =>
        if w10 = v6 then
          br (f_X0_hasEnded σ a9) fun r13 =>
          if r13 = 0 then
            bd (f_X8_replayed n0 σ t (some a9)) fun r17 u18 =>
            bq r17 fun a20 =>
            if (sx_I u18 a20 19) = 0 then
              fl_X8_check_93 n0 n u18 t x2 v6 x7 x8 x9 x10 (x11 + 1)
            else
              fl_X8_check_93 n0 n u18 t x2 v6 x7 x8 x9 (x10 + 1) (x11 + 1)
          else
            fl_X8_check_93 n0 n σ t x2 v6 x7 x8 x9 x10 (x11 + 1)
        else
          fl_X8_check_93 n0 n σ t x2 v6 x7 x8 x9 x10 (x11 + 1)
def fb_X8_check_21 (n0 : Nat) (σ : sx_T)  : Option ((Sum Int32 String) × sx_T) :=
  some (.inr "java/lang/IndexOutOfBoundsException", σ)
def f_X8_check (n0 : Nat) (σ : sx_T) (t : Nat) (x1 : Int32) (x2 : Int32) (x3 : Int32) (x4 : Int32) (x5 : Int32) : Option ((Sum Int32 String) × sx_T) :=
  br (f_X8_programAt σ t x1) fun r2 =>
  oc r2 (
    fb_X8_check_21 n0 σ 
  ) fun a4 =>
    br (f_X8_isBelow σ x2 20) fun r6 =>
    if r6 = 0 then
      fb_X8_check_21 n0 σ 
    else
      br (f_X8_isStep σ x3 x4 x5) fun r10 =>
      if r10 = 0 then
        some (.inr "java/lang/IllegalArgumentException", σ)
      else
        br (f_X4_operation σ a4 x2) fun r14 =>
        br (f_X4_first σ a4 x2) fun r17 =>
        br (f_X4_second σ a4 x2) fun r20 =>
        br (f_X4_put σ a4 x2 x3 x4 x5) fun u23 =>
        fl_X8_check_93 n0 n0 u23 t x2 (some a4) r14 r17 r20 0 0
def fb_X8_start_34 (n0 : Nat) (σ : sx_T)  : Option ((Sum Int32 String) × sx_T) :=
  some (.inr "java/lang/IllegalArgumentException", σ)
def f_X8_start (n0 : Nat) (σ : sx_T) (t : Nat) (x1 : Int32) (x2 : Int32) : Option ((Sum Int32 String) × sx_T) :=
  br (f_X8_programAt σ t x1) fun r2 =>
  oc r2 (
    some (.inr "java/lang/IndexOutOfBoundsException", σ)
  ) fun a4 =>
    if x2 < (-999) then
      fb_X8_start_34 n0 σ 
    else
      if x2 ≤ 999 then
        bd (f_X8_open σ t (some a4) x2 (-1) (-1)) fun r8 u9 =>
        oc r8 (
          some (.inr "java/lang/IllegalStateException", u9)
        ) fun a11 =>
          br (f_X8_goOn n0 u9 t (some a11)) fun u13 =>
          some (.inl (sx_I u13 a11 0), u13)
      else
        fb_X8_start_34 n0 σ 
def f_X8_send (n0 : Nat) (σ : sx_T) (t : Nat) (v1 : Option Nat) (x2 : Int32) (x3 : Int64) : Option (Int32 × sx_T) :=
  bq v1 fun a1 =>
  br (f_X0_canReceive σ a1) fun r3 =>
  if r3 = 0 then
    some (0, σ)
  else
    qv (sx_R σ a1 1) fun w6 =>
    bq w6 fun a7 =>
    br (f_X1_add σ a7 x2 x3) fun u9 =>
    br (f_X8_goOn n0 u9 t (some a1)) fun u12 =>
    some (1, u12)
def fb_X8_signal_40 (n0 : Nat) (σ : sx_T)  : Option ((Sum Int32 String) × sx_T) :=
  some (.inr "java/lang/IllegalArgumentException", σ)
def f_X8_signal (n0 : Nat) (σ : sx_T) (t : Nat) (x1 : Int32) (x2 : Int32) (x3 : Int32) : Option ((Sum Int32 String) × sx_T) :=
  br (f_X8_flowAt σ t x1) fun r2 =>
  oc r2 (
    some (.inr "java/lang/IndexOutOfBoundsException", σ)
  ) fun a4 =>
    br (f_X8_isBelow σ x2 100) fun r6 =>
    if r6 = 0 then
      fb_X8_signal_40 n0 σ 
    else
      br (f_X8_isBelow σ x3 100) fun r10 =>
      if r10 = 0 then
        fb_X8_signal_40 n0 σ 
      else
        bd (f_X8_send n0 σ t (some a4) 6 ((100 * x2.toInt64) + x3.toInt64)) fun r14 u15 =>
        some (.inl r14, u15)
def f_X8_cancel (n0 : Nat) (σ : sx_T) (t : Nat) (x1 : Int32) : Option ((Sum Int32 String) × sx_T) :=
  br (f_X8_flowAt σ t x1) fun r2 =>
  oc r2 (
    some (.inr "java/lang/IndexOutOfBoundsException", σ)
  ) fun a4 =>
    bd (f_X8_send n0 σ t (some a4) 12 0) fun r6 u7 =>
    some (.inl r6, u7)
def f_X0_eventsAheadOfEnd (σ : sx_T) (t : Nat) : Option Int32 :=
  br (f_X0_hasEnded σ t) fun r2 =>
  if r2 = 0 then
    qv (sx_R σ t 1) fun w5 =>
    bq w5 fun a6 =>
    br (f_X1_size σ a6) fun r8 =>
    some r8
  else
    qv (sx_R σ t 1) fun w10 =>
    bq w10 fun a11 =>
    br (f_X1_size σ a11) fun r13 =>
    some (r13 - 1)
def f_X8_canLead (n0 : Nat) (σ : sx_T) (t : Nat) (v1 : Option Nat) (x2 : Int32) : Option (Int32 × sx_T) :=
  qv (sx_R σ t 6) fun w1 =>
  bq v1 fun a2 =>
  qv (sx_R σ a2 3) fun w3 =>
  qv (sx_R σ a2 1) fun w4 =>
  bq w1 fun a5 =>
  br (f_X5_begin σ a5 w3 w4) fun u7 =>
  qv (sx_R u7 t 6) fun w9 =>
  bq w9 fun a10 =>
  br (f_X5_advance n0 u7 a10 x2) fun u12 =>
  qv (sx_R u12 t 6) fun w14 =>
  bq w14 fun a15 =>
  if (sx_I u12 a15 19) = 0 then
    qv (sx_R u12 t 6) fun w17 =>
    bq w17 fun a18 =>
    if (sx_I u12 a18 8) = 5 then
      some (0, u12)
    else
      some (1, u12)
  else
    some (0, u12)
def fl_X8_openAgain_29 (n0 : Nat) : Nat → sx_T → Nat → Option Nat → Int32 → Option Nat → Int32 → Option (Option Nat × sx_T)
  | 0 => fun _ _ _ _ _ _ => none
  | n + 1 => fun σ t v1 x2 v3 x4 =>
    if x2 ≤ x4 then
      bq v3 fun a2 =>
      qv (sx_R σ a2 2) fun w3 =>
      bq w3 fun a4 =>
      br (f_X5_advance n0 σ a4 x2) fun u6 =>
      qv (sx_R u6 a2 2) fun w9 =>
      bq w9 fun a10 =>
      br (f_X5_waitsForActivity (wx_I u6 a2 8 x2) a10) fun r12 =>
      if r12 = 0 then
        some ((some a2), (wx_I u6 a2 8 x2))
      else
        qv (sx_R u6 a2 2) fun w15 =>
        bq w15 fun a16 =>
        br (f_X8_schedule (wx_I u6 a2 8 x2) t (some a2) ((sx_J u6 a16 17).toInt32)) fun u18 =>
        some ((some a2), u18)
    else
      bq v3 fun a20 =>
      qv (sx_R σ a20 1) fun w21 =>
      bq v1 fun a22 =>
      qv (sx_R σ a22 1) fun w23 =>
      bq w23 fun a24 =>
      br (f_X1_kindAt σ a24 x4) fun r26 =>
      qv (sx_R σ a22 1) fun w28 =>
      bq w28 fun a29 =>
      br (f_X1_numberAt σ a29 x4) fun r31 =>
      bq w21 fun a33 =>
      br (f_X1_add σ a33 r26 r31) fun u35 =>
      fl_X8_openAgain_29 n0 n u35 t (some a22) x2 (some a20) (x4 + 1)
def f_X8_openAgain (n0 : Nat) (σ : sx_T) (t : Nat) (v1 : Option Nat) (x2 : Int32) : Option (Option Nat × sx_T) :=
  bq v1 fun a1 =>
  qv (sx_R σ a1 3) fun w2 =>
  qv (sx_R σ a1 1) fun w3 =>
  bq w3 fun a4 =>
  br (f_X1_numberAt σ a4 0) fun r6 =>
  bd (f_X8_open σ t w2 r6.toInt32 (-1) (-1)) fun r9 u10 =>
  oc r9 (
    some (none, u10)
  ) fun a12 =>
    fl_X8_openAgain_29 n0 n0 u10 t (some a1) x2 (some a12) 1
def fl_X8_reset_95 (n0 : Nat) : Nat → sx_T → Nat → Option Nat → Option Nat → Int32 → Option ((Sum Int32 String) × sx_T)
  | 0 => fun _ _ _ _ _ => none
  | n + 1 => fun σ t v3 v4 x5 =>
    bq v3 fun a1 =>
    qv (sx_R σ a1 1) fun w2 =>
    bq w2 fun a3 =>
    br (f_X1_size σ a3) fun r5 =>
    if r5 ≤ x5 then
      bq v4 fun a8 =>
      some (.inl (sx_I σ a8 0), σ)
    else
      qv (sx_R σ a1 1) fun w9 =>
      bq w9 fun a10 =>
      br (f_X1_kindAt σ a10 x5) fun r12 =>
      if r12 = 6 then
        qv (sx_R σ a1 1) fun w15 =>
        bq w15 fun a16 =>
        br (f_X1_numberAt σ a16 x5) fun r18 =>
        bd (f_X8_send n0 σ t v4 6 r18) fun r21 u22 =>
        fl_X8_reset_95 n0 n u22 t (some a1) v4 (x5 + 1)
      else
        fl_X8_reset_95 n0 n σ t (some a1) v4 (x5 + 1)
def fb_X8_reset_69 (n0 : Nat) (σ : sx_T) (t : Nat) (x2 : Int32) (v3 : Option Nat) (w0_ : Option Nat) : Option ((Sum Int32 String) × sx_T) :=
  oc w0_ (
    some (.inr "java/lang/IllegalStateException", σ)
  ) fun a1 =>
    br (f_X8_goOn n0 σ t (some a1)) fun u3 =>
    fl_X8_reset_95 n0 n0 u3 t v3 (some a1) x2
def fb_X8_reset_68 (n0 : Nat) (σ : sx_T) (t : Nat) (x2 : Int32) (v3 : Option Nat) : Option ((Sum Int32 String) × sx_T) :=
  fb_X8_reset_69 n0 σ t x2 v3 none
def fb_X8_reset_33 (n0 : Nat) (σ : sx_T)  : Option ((Sum Int32 String) × sx_T) :=
  some (.inr "java/lang/IllegalArgumentException", σ)
def f_X8_reset (n0 : Nat) (σ : sx_T) (t : Nat) (x1 : Int32) (x2 : Int32) : Option ((Sum Int32 String) × sx_T) :=
  br (f_X8_flowAt σ t x1) fun r2 =>
  oc r2 (
    some (.inr "java/lang/IndexOutOfBoundsException", σ)
  ) fun a4 =>
    if x2 < 1 then
      fb_X8_reset_33 n0 σ 
    else
      br (f_X0_eventsAheadOfEnd σ a4) fun r7 =>
      if x2 ≤ r7 then
        br (f_X0_hasEnded σ a4) fun r11 =>
        if r11 = 0 then
          fb_X8_reset_68 n0 σ t x2 (some a4)
        else
          bd (f_X8_canLead n0 σ t (some a4) x2) fun r15 u16 =>
          if r15 = 0 then
            fb_X8_reset_68 n0 u16 t x2 (some a4)
          else
            bd (f_X8_openAgain n0 u16 t (some a4) x2) fun r20 u21 =>
            fb_X8_reset_69 n0 u21 t x2 (some a4) r20
      else
        fb_X8_reset_33 n0 σ 
def fb_X8_complete_14 (n0 : Nat) (σ : sx_T)  : Option ((Sum Int32 String) × sx_T) :=
  some (.inr "java/lang/IllegalArgumentException", σ)
def f_X8_complete (n0 : Nat) (σ : sx_T) (t : Nat) (x1 : Int32) (x2 : Int32) : Option ((Sum Int32 String) × sx_T) :=
  if x2 < (-999) then
    fb_X8_complete_14 n0 σ 
  else
    if x2 ≤ 999 then
      br (f_X8_runningTask n0 σ t x1) fun r4 =>
      oc r4 (
        some (.inl 0, σ)
      ) fun a6 =>
        br (f_X7_finish σ a6 2 x2) fun u8 =>
        qv (sx_R u8 a6 1) fun w10 =>
        br (f_X8_goOn n0 u8 t w10) fun u12 =>
        some (.inl 1, u12)
    else
      fb_X8_complete_14 n0 σ 
def fb_J3_checkIndex_8e157_9 (σ : sx_T) (x0 : Int32) (x1 : Int32) (v2 : Option Nat) : Option Int32 :=
  none
def f_J3_checkIndex_8e157 (σ : sx_T) (x0 : Int32) (x1 : Int32) (v2 : Option Nat) : Option Int32 :=
  if x0 < 0 then
    fb_J3_checkIndex_8e157_9 σ x0 x1 v2
  else
    if x0 < x1 then
      some x0
    else
      fb_J3_checkIndex_8e157_9 σ x0 x1 v2
def f_J15_checkIndex_7cf53 (σ : sx_T) (x0 : Int32) (x1 : Int32) : Option Int32 :=
  br (f_J3_checkIndex_8e157 σ x0 x1 none) fun r2 =>
  some r2
def f_Jx4a65c_elementData_915e3 (σ : sx_T) (t : Nat) (x1 : Int32) : Option (Option Nat) :=
  qv (sx_R σ t 1) fun w1 =>
  bq w1 fun a2 =>
  gk σ a2 17 <|
  ck x1 (sx_N σ a2) <|
  qv (sx_R σ a2 (ti x1)) fun w4 =>
  some w4
def f_Jx4a65c_get_915e3 (σ : sx_T) (t : Nat) (x1 : Int32) : Option (Option Nat) :=
  br (f_J15_checkIndex_7cf53 σ x1 (sx_I σ t 2)) fun r2 =>
  br (f_Jx4a65c_elementData_915e3 σ t x1) fun r5 =>
  some r5
def f_X8_taskAt (σ : sx_T) (t : Nat) (x1 : Int32) : Option (Option Nat) :=
  if x1 < 0 then
    some none
  else
    qv (sx_R σ t 3) fun w2 =>
    bq w2 fun a3 =>
    br (f_Jx4a65c_size_8abf5 σ a3) fun r5 =>
    if r5 ≤ x1 then
      some none
    else
      qv (sx_R σ t 3) fun w8 =>
      bq w8 fun a9 =>
      br (f_Jx4a65c_get_915e3 σ a9 x1) fun r11 =>
      some r11
def fb_X7_isDue_16 (σ : sx_T) (t : Nat) (x1 : Int32) : Option Int32 :=
  if x1 < (sx_I σ t 6) then
    some 0
  else
    qv (sx_R σ t 1) fun w2 =>
    bq w2 fun a3 =>
    qv (sx_R σ a3 2) fun w4 =>
    bq w4 fun a5 =>
    if (sx_I σ a5 19) = 0 then
      some 1
    else
      some 0
def f_X7_isDue (σ : sx_T) (t : Nat) (x1 : Int32) : Option Int32 :=
  if (sx_I σ t 3) = 1 then
    fb_X7_isDue_16 σ t x1
  else
    if (sx_I σ t 3) = 2 then
      fb_X7_isDue_16 σ t x1
    else
      some 0
def f_X7_pass (σ : sx_T) (t : Nat) (x1 : Int32) : Option sx_T :=
  if (sx_I σ t 3) = 1 then
    br (f_X7_loseTry σ t x1) fun u3 =>
    some u3
  else
    some (wx_I (wx_I σ t 3 0) t 6 0)
def fl_X8_passTasks_2 (n0 : Nat) : Nat → sx_T → Nat → Int32 → Option sx_T
  | 0 => fun _ _ _ => none
  | n + 1 => fun σ t x1 =>
    qv (sx_R σ t 3) fun w1 =>
    bq w1 fun a2 =>
    br (f_Jx4a65c_size_8abf5 σ a2) fun r4 =>
    if r4 ≤ x1 then
      some σ
    else
      br (f_X8_taskAt σ t x1) fun r8 =>
      oc r8 (
        fl_X8_passTasks_2 n0 n σ t (x1 + 1)
      ) fun a10 =>
        br (f_X7_isDue σ a10 (sx_I σ t 8)) fun r12 =>
        if r12 = 0 then
          fl_X8_passTasks_2 n0 n σ t (x1 + 1)
        else
          br (f_X7_pass σ a10 (sx_I σ t 8)) fun u16 =>
          qv (sx_R u16 a10 1) fun w18 =>
          br (f_X8_goOn n0 u16 t w18) fun u20 =>
          fl_X8_passTasks_2 n0 n u20 t (x1 + 1)
def f_X8_passTasks (n0 : Nat) (σ : sx_T) (t : Nat) : Option sx_T :=
  fl_X8_passTasks_2 n0 n0 σ t 0
def fb_X5_isDue_23 (σ : sx_T) (t : Nat) (x1 : Int32) : Option Int32 :=
  if 0 < (lg_cmp (sx_J σ t 11) x1.toInt64) then
    some 0
  else
    some 1
def f_X5_isDue (σ : sx_T) (t : Nat) (x1 : Int32) : Option Int32 :=
  if (sx_I σ t 19) = 0 then
    if (sx_I σ t 8) = 2 then
      fb_X5_isDue_23 σ t x1
    else
      if (sx_I σ t 8) = 4 then
        fb_X5_isDue_23 σ t x1
      else
        some 0
  else
    some 0
def fl_X8_passTimers_2 (n0 : Nat) : Nat → sx_T → Nat → Int32 → Option sx_T
  | 0 => fun _ _ _ => none
  | n + 1 => fun σ t x1 =>
    if (sx_I σ t 7) ≤ x1 then
      some σ
    else
      br (f_X8_flowAt σ t x1) fun r3 =>
      oc r3 (
        fl_X8_passTimers_2 n0 n σ t (x1 + 1)
      ) fun a5 =>
        qv (sx_R σ a5 2) fun w6 =>
        bq w6 fun a7 =>
        br (f_X5_isDue σ a7 (sx_I σ t 8)) fun r9 =>
        if r9 = 0 then
          fl_X8_passTimers_2 n0 n σ t (x1 + 1)
        else
          qv (sx_R σ a5 1) fun w12 =>
          bq w12 fun a13 =>
          br (f_X1_add σ a13 5 0) fun u15 =>
          br (f_X8_goOn n0 u15 t (some a5)) fun u18 =>
          fl_X8_passTimers_2 n0 n u18 t (x1 + 1)
def f_X8_passTimers (n0 : Nat) (σ : sx_T) (t : Nat) : Option sx_T :=
  fl_X8_passTimers_2 n0 n0 σ t 0
def fl_X8_tick_23 (n0 : Nat) : Nat → sx_T → Nat → Int32 → Int32 → Option ((Sum Int32 String) × sx_T)
  | 0 => fun _ _ _ _ => none
  | n + 1 => fun σ t x1 x2 =>
    if x1 ≤ x2 then
      some (.inl (sx_I σ t 8), σ)
    else
      br (f_X8_passTasks n0 (wx_I σ t 8 ((sx_I σ t 8) + 1)) t) fun u4 =>
      br (f_X8_passTimers n0 u4 t) fun u7 =>
      fl_X8_tick_23 n0 n u7 t x1 (x2 + 1)
def fb_X8_tick_11 (n0 : Nat) (σ : sx_T)  : Option ((Sum Int32 String) × sx_T) :=
  some (.inr "java/lang/IllegalArgumentException", σ)
def f_X8_tick (n0 : Nat) (σ : sx_T) (t : Nat) (x1 : Int32) : Option ((Sum Int32 String) × sx_T) :=
  if x1 < 1 then
    fb_X8_tick_11 n0 σ 
  else
    if x1 ≤ 50 then
      fl_X8_tick_23 n0 n0 σ t x1 0
    else
      fb_X8_tick_11 n0 σ 
def f_X8_state (σ : sx_T) (t : Nat) (x1 : Int32) : Option ((Sum Int32 String) × sx_T) :=
  br (f_X8_flowAt σ t x1) fun r2 =>
  oc r2 (
    some (.inr "java/lang/IndexOutOfBoundsException", σ)
  ) fun a4 =>
    br (f_X0_hasEnded σ a4) fun r6 =>
    if r6 = 0 then
      qv (sx_R σ a4 2) fun w9 =>
      bq w9 fun a10 =>
      if (sx_I σ a10 19) = 0 then
        some (.inl 0, σ)
      else
        some (.inl 5, σ)
    else
      qv (sx_R σ a4 1) fun w12 =>
      bq w12 fun a13 =>
      br (f_X1_ending σ a13) fun r15 =>
      some (.inl r15, σ)
def f_X5_waitedNumber (σ : sx_T) (t : Nat) : Option Int32 :=
  if (sx_I σ t 8) = 2 then
    some ((sx_J σ t 11).toInt32)
  else
  if (sx_I σ t 8) = 3 then
    some (sx_I σ t 9)
  else
  if (sx_I σ t 8) = 4 then
    some (sx_I σ t 9)
  else
  if (sx_I σ t 8) = 5 then
    some (sx_I σ t 10)
  else
  some 0
def f_X3_size (σ : sx_T) (t : Nat) : Option Int32 :=
  some (sx_I σ t 1)
def f_X6_size (σ : sx_T) (t : Nat) : Option Int32 :=
  some (sx_I σ t 1)
def fb_X8_fact_86 (σ : sx_T) (v2 : Option Nat) (w0_ : Option Nat) : Option Int32 :=
  oc w0_ (
    bq v2 fun a2 =>
    br (f_X5_waitedNumber σ a2) fun r4 =>
    some r4
  ) fun a1 =>
    some (sx_I σ a1 0)
def f_X8_fact (σ : sx_T) (t : Nat) (v1 : Option Nat) (v2 : Option Nat) (x3 : Int32) : Option Int32 :=
  if x3 = 0 then
    bq v1 fun a2 =>
    qv (sx_R σ a2 3) fun w3 =>
    bq w3 fun a4 =>
    some (sx_I σ a4 0)
  else
  if x3 = 1 then
    bq v2 fun a6 =>
    some (sx_I σ a6 5)
  else
  if x3 = 2 then
    bq v2 fun a8 =>
    some (sx_I σ a8 6)
  else
  if x3 = 3 then
    bq v2 fun a10 =>
    some (sx_I σ a10 8)
  else
  if x3 = 4 then
    bq v2 fun a12 =>
    br (f_X5_waitsForActivity σ a12) fun r14 =>
    if r14 = 0 then
      fb_X8_fact_86 σ (some a12) none
    else
      bq v1 fun a17 =>
      qv (sx_R σ a17 7) fun w18 =>
      fb_X8_fact_86 σ (some a12) w18
  else
  if x3 = 5 then
    bq v2 fun a20 =>
    qv (sx_R σ a20 0) fun w21 =>
    bq w21 fun a22 =>
    br (f_X3_size σ a22) fun r24 =>
    some r24
  else
  if x3 = 6 then
    bq v2 fun a27 =>
    if (sx_I σ a27 12) = 0 then
      some 0
    else
      some 1
  else
  if x3 = 7 then
    bq v2 fun a30 =>
    if (sx_I σ a30 15) = 0 then
      some (sx_I σ a30 14)
    else
      some 0
  else
  bq v2 fun a32 =>
  qv (sx_R σ a32 1) fun w33 =>
  bq w33 fun a34 =>
  br (f_X6_size σ a34) fun r36 =>
  some r36
def fb_X8_about_58 (n0 : Nat) (σ : sx_T) (t : Nat) (x2 : Int32) (v3 : Option Nat) (w0_ : Option Nat) : Option ((Sum Int32 String) × sx_T) :=
  bq w0_ fun a1 =>
  if (sx_I σ a1 19) = 0 then
    br (f_X8_fact σ t v3 (some a1) x2) fun r4 =>
    some (.inl r4, σ)
  else
    some (.inr "java/lang/IllegalStateException", σ)
def f_X8_about (n0 : Nat) (σ : sx_T) (t : Nat) (x1 : Int32) (x2 : Int32) : Option ((Sum Int32 String) × sx_T) :=
  br (f_X8_flowAt σ t x1) fun r2 =>
  oc r2 (
    some (.inr "java/lang/IndexOutOfBoundsException", σ)
  ) fun a4 =>
    br (f_X8_isBelow σ x2 9) fun r6 =>
    if r6 = 0 then
      some (.inr "java/lang/IllegalArgumentException", σ)
    else
      br (f_X0_hasEnded σ a4) fun r10 =>
      if r10 = 0 then
        qv (sx_R σ a4 2) fun w13 =>
        fb_X8_about_58 n0 σ t x2 (some a4) w13
      else
        bd (f_X8_replayed n0 σ t (some a4)) fun r15 u16 =>
        fb_X8_about_58 n0 u16 t x2 (some a4) r15
def f_X8_aboutAnew (n0 : Nat) (σ : sx_T) (t : Nat) (x1 : Int32) (x2 : Int32) : Option ((Sum Int32 String) × sx_T) :=
  br (f_X8_flowAt σ t x1) fun r2 =>
  oc r2 (
    some (.inr "java/lang/IndexOutOfBoundsException", σ)
  ) fun a4 =>
    br (f_X8_isBelow σ x2 9) fun r6 =>
    if r6 = 0 then
      some (.inr "java/lang/IllegalArgumentException", σ)
    else
      bd (f_X8_replayed n0 σ t (some a4)) fun r10 u11 =>
      bq r10 fun a13 =>
      if (sx_I u11 a13 19) = 0 then
        br (f_X8_fact u11 t (some a4) (some a13) x2) fun r16 =>
        some (.inl r16, u11)
      else
        some (.inr "java/lang/IllegalStateException", u11)
def f_X8_parent (σ : sx_T) (t : Nat) (x1 : Int32) : Option ((Sum Int32 String) × sx_T) :=
  br (f_X8_flowAt σ t x1) fun r2 =>
  oc r2 (
    some (.inr "java/lang/IndexOutOfBoundsException", σ)
  ) fun a4 =>
    some (.inl (sx_I σ a4 4), σ)
def f_X8_events (σ : sx_T) (t : Nat) (x1 : Int32) : Option ((Sum Int32 String) × sx_T) :=
  br (f_X8_flowAt σ t x1) fun r2 =>
  oc r2 (
    some (.inr "java/lang/IndexOutOfBoundsException", σ)
  ) fun a4 =>
    qv (sx_R σ a4 1) fun w5 =>
    bq w5 fun a6 =>
    br (f_X1_size σ a6) fun r8 =>
    some (.inl r8, σ)
def fb_X8_kind_24 (σ : sx_T)  : Option ((Sum Int32 String) × sx_T) :=
  some (.inr "java/lang/IndexOutOfBoundsException", σ)
def f_X8_kind (σ : sx_T) (t : Nat) (x1 : Int32) (x2 : Int32) : Option ((Sum Int32 String) × sx_T) :=
  br (f_X8_flowAt σ t x1) fun r2 =>
  oc r2 (
    fb_X8_kind_24 σ 
  ) fun a4 =>
    qv (sx_R σ a4 1) fun w5 =>
    bq w5 fun a6 =>
    br (f_X1_size σ a6) fun r8 =>
    br (f_X8_isBelow σ x2 r8) fun r11 =>
    if r11 = 0 then
      fb_X8_kind_24 σ 
    else
      qv (sx_R σ a4 1) fun w14 =>
      bq w14 fun a15 =>
      br (f_X1_kindAt σ a15 x2) fun r17 =>
      some (.inl r17, σ)
def fb_X8_number_24 (σ : sx_T)  : Option ((Sum Int64 String) × sx_T) :=
  some (.inr "java/lang/IndexOutOfBoundsException", σ)
def f_X8_number (σ : sx_T) (t : Nat) (x1 : Int32) (x2 : Int32) : Option ((Sum Int64 String) × sx_T) :=
  br (f_X8_flowAt σ t x1) fun r2 =>
  oc r2 (
    fb_X8_number_24 σ 
  ) fun a4 =>
    qv (sx_R σ a4 1) fun w5 =>
    bq w5 fun a6 =>
    br (f_X1_size σ a6) fun r8 =>
    br (f_X8_isBelow σ x2 r8) fun r11 =>
    if r11 = 0 then
      fb_X8_number_24 σ 
    else
      qv (sx_R σ a4 1) fun w14 =>
      bq w14 fun a15 =>
      br (f_X1_numberAt σ a15 x2) fun r17 =>
      some (.inl r17, σ)
def f_X7_fact (σ : sx_T) (t : Nat) (x1 : Int32) : Option Int32 :=
  if x1 = 0 then
    qv (sx_R σ t 1) fun w2 =>
    bq w2 fun a3 =>
    some (sx_I σ a3 0)
  else
  if x1 = 1 then
    some (sx_I σ t 2)
  else
  if x1 = 2 then
    some (sx_I σ t 3)
  else
  if x1 = 3 then
    some (sx_I σ t 4)
  else
  if x1 = 4 then
    some (sx_I σ t 5)
  else
  some (sx_I σ t 6)
def f_X8_task (σ : sx_T) (t : Nat) (x1 : Int32) (x2 : Int32) : Option ((Sum Int32 String) × sx_T) :=
  br (f_X8_taskAt σ t x1) fun r2 =>
  oc r2 (
    some (.inr "java/lang/IndexOutOfBoundsException", σ)
  ) fun a4 =>
    br (f_X8_isBelow σ x2 6) fun r6 =>
    if r6 = 0 then
      some (.inr "java/lang/IllegalArgumentException", σ)
    else
      br (f_X7_fact σ a4 x2) fun r10 =>
      some (.inl r10, σ)
def f_X9_thrown (σ : sx_T) (t : Nat) : Option Int32 :=
  some (sx_I σ t 0)
def f_X9_in (σ : sx_T) (x0 : Int32) (x1 : Int32) (x2 : Int32) : Option Int32 :=
  if x0 < x1 then
    some 0
  else
    if x2 < x0 then
      some 0
    else
      some 1
def f_X9_isStep (σ : sx_T) (x0 : Int32) (x1 : Int32) : Option Int32 :=
  br (f_X9_in σ x0 0 5) fun r2 =>
  if r2 = 0 then
    some 0
  else
    br (f_X9_in σ x1 0 19) fun r6 =>
    if r6 = 0 then
      some 0
    else
      some 1
def f_X9_isOperation (σ : sx_T) (x0 : Int32) (x1 : Int32) (x2 : Int32) : Option Int32 :=
  br (f_X9_in σ x0 0 17) fun r2 =>
  if r2 = 0 then
    some 0
  else
    br (f_X9_in σ x1 0 99) fun r6 =>
    if r6 = 0 then
      some 0
    else
      br (f_X9_in σ x2 0 99) fun r10 =>
      if r10 = 0 then
        some 0
      else
        some 1
def fb_X9_needs__18 (σ : sx_T) (t : Nat) (y0 : Int32) : Option (Int32 × sx_T) :=
  if y0 = 0 then
    some (1, (wx_I σ t 0 y0))
  else
    some (0, (wx_I σ t 0 y0))
def f_X9_needs_ (σ : sx_T) (t : Nat) (x1 : Int32) (x2 : Int32) : Option (Int32 × sx_T) :=
  if x1 = 0 then
    fb_X9_needs__18 σ t 1
  else
    if x2 = 0 then
      fb_X9_needs__18 σ t 2
    else
      fb_X9_needs__18 σ t 0
def f_X9_lays (σ : sx_T) (t : Nat) (x1 : Int32) (x2 : Int32) (x3 : Int32) (x4 : Int32) (x5 : Int32) : Option sx_T :=
  qv (sx_R σ t 3) fun w1 =>
  bq w1 fun a2 =>
  ck ((20 * x1) + x2) (sx_N σ a2) <|
  qv (sx_R σ t 4) fun w5 =>
  bq w5 fun a6 =>
  ck ((20 * x1) + x2) (sx_N σ a6) <|
  qv (sx_R σ t 5) fun w9 =>
  bq w9 fun a10 =>
  ck ((20 * x1) + x2) (sx_N σ a10) <|
  some (wx_I (wx_I (wx_I σ a2 (ti ((20 * x1) + x2)) x3) a6 (ti ((20 * x1) + x2)) x4) a10 (ti ((20 * x1) + x2)) x5)
def f_X9_begins (σ : sx_T) (t : Nat) : Option sx_T :=
  some (wx_I (wx_I (wx_I (wx_I (wx_I (wx_I (wx_I (wx_I (wx_I (wx_I (wx_I (wx_I (wx_I σ t 26 1) t 27 0) t 28 0) t 29 0) t 30 0) t 31 0) t 32 0) t 34 0) t 35 0) t 36 0) t 37 0) t 38 0) t 39 0)
def fl_X9_keptOf_2 (n0 : Nat) : Nat → sx_T → Nat → Int32 → Int32 → Option Int32
  | 0 => fun _ _ _ _ => none
  | n + 1 => fun σ t x1 x2 =>
    if (sx_I σ t 39) ≤ x2 then
      some (-1)
    else
      qv (sx_R σ t 40) fun w2 =>
      bq w2 fun a3 =>
      ck x2 (sx_N σ a3) <|
      if (sx_I σ a3 (ti x2)) = x1 then
        some x2
      else
        fl_X9_keptOf_2 n0 n σ t x1 (x2 + 1)
def f_X9_keptOf (n0 : Nat) (σ : sx_T) (t : Nat) (x1 : Int32) : Option Int32 :=
  fl_X9_keptOf_2 n0 n0 σ t x1 0
def fl_X9_uses_19 (n0 : Nat) : Nat → sx_T → Nat → Int32 → Int32 → Option (Int32 × sx_T)
  | 0 => fun _ _ _ _ => none
  | n + 1 => fun σ t x2 x3 =>
    if (sx_I σ t 39) ≤ x3 then
      some (x2, σ)
    else
      qv (sx_R σ t 40) fun w2 =>
      qv (sx_R σ t 40) fun w3 =>
      bq w3 fun a4 =>
      ck (x3 + 1) (sx_N σ a4) <|
      bq w2 fun a6 =>
      ck x3 (sx_N σ a6) <|
      qv (sx_R σ t 41) fun w9 =>
      qv (sx_R σ t 41) fun w10 =>
      bq w10 fun a11 =>
      ck (x3 + 1) (sx_N σ a11) <|
      bq w9 fun a13 =>
      ck x3 (sx_N σ a13) <|
      fl_X9_uses_19 n0 n (wx_I (wx_I σ a6 (ti x3) (sx_I σ a4 (ti (x3 + 1)))) a13 (ti x3) (sx_I (wx_I σ a6 (ti x3) (sx_I σ a4 (ti (x3 + 1)))) a11 (ti (x3 + 1)))) t x2 (x3 + 1)
def f_X9_uses (n0 : Nat) (σ : sx_T) (t : Nat) (x1 : Int32) : Option (Int32 × sx_T) :=
  qv (sx_R σ t 41) fun w1 =>
  bq w1 fun a2 =>
  ck x1 (sx_N σ a2) <|
  fl_X9_uses_19 n0 n0 (wx_I σ t 39 ((sx_I σ t 39) - 1)) t (sx_I σ a2 (ti x1)) x1
def fb_X9_comes_518 (n0 : Nat) (σ : sx_T) (t : Nat) : Option sx_T :=
  some (wx_I σ t 30 0)
def fb_X9_comes_515 (n0 : Nat) (σ : sx_T) (t : Nat) (y0 : Int32) : Option sx_T :=
  fb_X9_comes_518 n0 (wx_I σ t 36 y0) t
def fb_X9_comes_496 (n0 : Nat) (σ : sx_T) (t : Nat) (x7 : Int64) (y0 : Int32) : Option sx_T :=
  if (lg_cmp x7 1) = 0 then
    fb_X9_comes_515 n0 (wx_I σ t 29 y0) t (sx_I σ t 36)
  else
    fb_X9_comes_515 n0 (wx_I σ t 29 y0) t 2
def fb_X9_comes_470 (n0 : Nat) (σ : sx_T) (t : Nat) (x3 : Int64) (y0 : Int64) : Option sx_T :=
  if (lg_cmp y0 1) = 0 then
    fb_X9_comes_496 n0 σ t y0 (((x3 - y0) / 10).toInt32)
  else
    fb_X9_comes_496 n0 σ t y0 (sx_I σ t 29)
def fb_X9_comes_434 (n0 : Nat) (σ : sx_T) (t : Nat) (x2 : Int32) (x3 : Int64) (y0 : Int32) : Option sx_T :=
  if x2 = 8 then
    if 0 ≤ (lg_cmp (jreml x3 10) 0) then
      fb_X9_comes_470 n0 (wx_I σ t 36 y0) t x3 (jreml x3 10)
    else
      fb_X9_comes_470 n0 (wx_I σ t 36 y0) t x3 ((jreml x3 10) + 10)
  else
    fb_X9_comes_518 n0 (wx_I σ t 36 y0) t
def fb_X9_comes_430 (n0 : Nat) (σ : sx_T) (t : Nat) (x2 : Int32) (x3 : Int64) : Option sx_T :=
  fb_X9_comes_434 n0 σ t x2 x3 (sx_I σ t 36)
def fb_X9_comes_409 (n0 : Nat) (σ : sx_T) (t : Nat) (x2 : Int32) (x3 : Int64) (y0 : Int32) : Option sx_T :=
  if x2 = 3 then
    if (sx_I σ t 30) = 1 then
      fb_X9_comes_434 n0 (wx_I σ t 29 y0) t x2 x3 2
    else
      fb_X9_comes_430 n0 (wx_I σ t 29 y0) t x2 x3
  else
    fb_X9_comes_430 n0 (wx_I σ t 29 y0) t x2 x3
def fb_X9_comes_405 (n0 : Nat) (σ : sx_T) (t : Nat) (x2 : Int32) (x3 : Int64) : Option sx_T :=
  fb_X9_comes_409 n0 σ t x2 x3 (sx_I σ t 29)
def fb_X9_comes_388 (n0 : Nat) (σ : sx_T) (t : Nat) (x2 : Int32) (x3 : Int64) : Option sx_T :=
  if x2 = 5 then
    if (sx_I σ t 30) = 4 then
      fb_X9_comes_409 n0 σ t x2 x3 0
    else
      fb_X9_comes_405 n0 σ t x2 x3
  else
    fb_X9_comes_405 n0 σ t x2 x3
def fb_X9_comes_356 (n0 : Nat) (σ : sx_T) (t : Nat) : Option sx_T :=
  some (wx_I (wx_I σ t 30 0) t 36 3)
def fb_X9_comes_256 (n0 : Nat) (σ : sx_T) (t : Nat) (y0 : Int32) : Option sx_T :=
  some (wx_I (wx_I σ t 29 y0) t 30 0)
def fb_X9_comes_213 (n0 : Nat) (σ : sx_T) (t : Nat) (x3 : Int64) : Option sx_T :=
  if (lg_cmp (x3 / 100) ((sx_I σ t 31).toInt64)) = 0 then
    br (f_X9_keptOf n0 σ t (sx_I σ t 31)) fun r3 =>
    bd (f_X9_uses n0 σ t r3) fun r6 u7 =>
    if (sx_I u7 t 30) = 4 then
      fb_X9_comes_256 n0 u7 t 1
    else
      fb_X9_comes_256 n0 u7 t r6
  else
    some σ
def fb_X9_comes_136 (n0 : Nat) (σ : sx_T) (t : Nat) (x1 : Int32) (x2 : Int32) (x3 : Int64) : Option sx_T :=
  if x2 = 6 then
    qv (sx_R σ t 40) fun w4 =>
    bq w4 fun a5 =>
    ck (sx_I σ t 39) (sx_N σ a5) <|
    qv (sx_R σ t 41) fun w8 =>
    bq w8 fun a9 =>
    ck (sx_I σ t 39) (sx_N σ a9) <|
    if (sx_I σ t 30) = 3 then
      fb_X9_comes_213 n0 (wx_I (wx_I (wx_I (wx_I (wx_I σ t 27 ((sx_I σ t 27) + 1)) t 38 0) a5 (ti (sx_I σ t 39)) ((x3 / 100).toInt32)) a9 (ti (sx_I σ t 39)) ((jreml x3 100).toInt32)) t 39 ((sx_I σ t 39) + 1)) t x3
    else
      if (sx_I σ t 30) = 4 then
        fb_X9_comes_213 n0 (wx_I (wx_I (wx_I (wx_I (wx_I σ t 27 ((sx_I σ t 27) + 1)) t 38 0) a5 (ti (sx_I σ t 39)) ((x3 / 100).toInt32)) a9 (ti (sx_I σ t 39)) ((jreml x3 100).toInt32)) t 39 ((sx_I σ t 39) + 1)) t x3
      else
        some (wx_I (wx_I (wx_I (wx_I (wx_I σ t 27 ((sx_I σ t 27) + 1)) t 38 0) a5 (ti (sx_I σ t 39)) ((x3 / 100).toInt32)) a9 (ti (sx_I σ t 39)) ((jreml x3 100).toInt32)) t 39 ((sx_I σ t 39) + 1))
  else
    if x2 = 12 then
      if (sx_I σ t 34) = 0 then
        if (sx_I σ t 36) = 0 then
          if (sx_I σ t 30) = 5 then
            if (sx_I σ t 47) = 0 then
              fb_X9_comes_356 n0 (wx_I (wx_I σ t 27 ((sx_I σ t 27) + 1)) t 38 0) t
            else
              qv (sx_R σ t 12) fun w20 =>
              bq w20 fun a21 =>
              ck x1 (sx_N σ a21) <|
              if ((sx_I σ t 27) + 1) ≤ (sx_I σ a21 (ti x1)) then
                fb_X9_comes_356 n0 (wx_I (wx_I σ t 27 ((sx_I σ t 27) + 1)) t 38 0) t
              else
                qv (sx_R σ t 12) fun w24 =>
                bq w24 fun a25 =>
                ck x1 (sx_N σ a25) <|
                qv (sx_R σ t 46) fun w28 =>
                bq w28 fun a29 =>
                ck (sx_I σ t 45) (sx_N σ a29) <|
                fb_X9_comes_356 n0 (wx_I (wx_I (wx_I (wx_I (wx_I σ t 27 ((sx_I σ t 27) + 1)) t 38 0) a25 (ti x1) ((sx_I σ t 27) + 1)) a29 (ti (sx_I σ t 45)) (sx_I σ t 31)) t 45 ((sx_I σ t 45) + 1)) t
          else
            fb_X9_comes_356 n0 (wx_I (wx_I σ t 27 ((sx_I σ t 27) + 1)) t 38 0) t
        else
          some (wx_I (wx_I σ t 27 ((sx_I σ t 27) + 1)) t 38 0)
      else
        some (wx_I (wx_I (wx_I σ t 27 ((sx_I σ t 27) + 1)) t 38 0) t 35 1)
    else
      if x2 = 2 then
        if (sx_I σ t 30) = 1 then
          fb_X9_comes_409 n0 (wx_I (wx_I σ t 27 ((sx_I σ t 27) + 1)) t 38 0) t x2 x3 x3.toInt32
        else
          fb_X9_comes_388 n0 (wx_I (wx_I σ t 27 ((sx_I σ t 27) + 1)) t 38 0) t x2 x3
      else
        fb_X9_comes_388 n0 (wx_I (wx_I σ t 27 ((sx_I σ t 27) + 1)) t 38 0) t x2 x3
def fb_X9_comes_104 (n0 : Nat) (σ : sx_T) (t : Nat) (x1 : Int32) (x2 : Int32) (x3 : Int64) : Option sx_T :=
  if x2 = 8 then
    if (sx_I σ t 30) = 5 then
      fb_X9_comes_136 n0 σ t x1 x2 x3
    else
      some (wx_I σ t 26 0)
  else
    some (wx_I σ t 26 0)
def fb_X9_comes_83 (n0 : Nat) (σ : sx_T) (t : Nat) (x1 : Int32) (x2 : Int32) (x3 : Int64) : Option sx_T :=
  if x2 = 5 then
    if (sx_I σ t 30) = 2 then
      fb_X9_comes_136 n0 σ t x1 x2 x3
    else
      if (sx_I σ t 30) = 4 then
        fb_X9_comes_136 n0 σ t x1 x2 x3
      else
        fb_X9_comes_104 n0 σ t x1 x2 x3
  else
    fb_X9_comes_104 n0 σ t x1 x2 x3
def fb_X9_comes_54 (n0 : Nat) (σ : sx_T) (t : Nat) (x1 : Int32) (x2 : Int32) (x3 : Int64) (y0 : Int32) : Option sx_T :=
  if x2 = 6 then
    fb_X9_comes_136 n0 σ t x1 x2 x3
  else
    if x2 = 12 then
      fb_X9_comes_136 n0 σ t x1 x2 x3
    else
      if y0 = 0 then
        fb_X9_comes_83 n0 σ t x1 x2 x3
      else
        if x2 = 2 then
          fb_X9_comes_136 n0 σ t x1 x2 x3
        else
          if x2 = 3 then
            fb_X9_comes_136 n0 σ t x1 x2 x3
          else
            fb_X9_comes_83 n0 σ t x1 x2 x3
def fb_X9_comes_49 (n0 : Nat) (σ : sx_T) (t : Nat) (x1 : Int32) (x2 : Int32) (x3 : Int64) : Option sx_T :=
  fb_X9_comes_54 n0 σ t x1 x2 x3 1
def f_X9_comes (n0 : Nat) (σ : sx_T) (t : Nat) (x1 : Int32) : Option sx_T :=
  qv (sx_R σ t 14) fun w1 =>
  bq w1 fun a2 =>
  ck ((160 * x1) + (sx_I σ t 27)) (sx_N σ a2) <|
  qv (sx_R σ t 15) fun w4 =>
  bq w4 fun a5 =>
  ck ((160 * x1) + (sx_I σ t 27)) (sx_N σ a5) <|
  if (sx_I σ t 30) = 1 then
    fb_X9_comes_49 n0 σ t x1 (sx_I σ a2 (ti ((160 * x1) + (sx_I σ t 27)))) (sx_J σ a5 (ti ((160 * x1) + (sx_I σ t 27))))
  else
    if (sx_I σ t 30) = 6 then
      fb_X9_comes_49 n0 σ t x1 (sx_I σ a2 (ti ((160 * x1) + (sx_I σ t 27)))) (sx_J σ a5 (ti ((160 * x1) + (sx_I σ t 27))))
    else
      fb_X9_comes_54 n0 σ t x1 (sx_I σ a2 (ti ((160 * x1) + (sx_I σ t 27)))) (sx_J σ a5 (ti ((160 * x1) + (sx_I σ t 27)))) 0
def f_X9_adds (σ : sx_T) (t : Nat) (x1 : Int32) (x2 : Int32) (x3 : Int64) : Option sx_T :=
  qv (sx_R σ t 14) fun w1 =>
  qv (sx_R σ t 11) fun w2 =>
  bq w2 fun a3 =>
  ck x1 (sx_N σ a3) <|
  bq w1 fun a5 =>
  ck ((160 * x1) + (sx_I σ a3 (ti x1))) (sx_N σ a5) <|
  qv (sx_R σ t 15) fun w8 =>
  qv (sx_R σ t 11) fun w9 =>
  bq w9 fun a10 =>
  ck x1 (sx_N σ a10) <|
  bq w8 fun a12 =>
  ck ((160 * x1) + (sx_I (wx_I σ a5 (ti ((160 * x1) + (sx_I σ a3 (ti x1)))) x2) a10 (ti x1))) (sx_N σ a12) <|
  qv (sx_R σ t 11) fun w15 =>
  bq w15 fun a16 =>
  ck x1 (sx_N σ a16) <|
  ck x1 (sx_N σ a16) <|
  some (wx_I (wx_J (wx_I σ a5 (ti ((160 * x1) + (sx_I σ a3 (ti x1)))) x2) a12 (ti ((160 * x1) + (sx_I (wx_I σ a5 (ti ((160 * x1) + (sx_I σ a3 (ti x1)))) x2) a10 (ti x1)))) x3) a16 (ti x1) ((sx_I (wx_J (wx_I σ a5 (ti ((160 * x1) + (sx_I σ a3 (ti x1)))) x2) a12 (ti ((160 * x1) + (sx_I (wx_I σ a5 (ti ((160 * x1) + (sx_I σ a3 (ti x1)))) x2) a10 (ti x1)))) x3) a16 (ti x1)) + 1))
def fb_X9_meets_60 (σ : sx_T) (t : Nat) (y0 : Int32) : Option (Int32 × sx_T) :=
  some (y0, (wx_I (wx_I σ t 26 y0) t 27 ((sx_I σ t 27) + 1)))
def fb_X9_meets_59 (σ : sx_T) (t : Nat) : Option (Int32 × sx_T) :=
  fb_X9_meets_60 σ t 0
def fb_X9_meets_55 (σ : sx_T) (t : Nat) : Option (Int32 × sx_T) :=
  fb_X9_meets_60 σ t 1
def f_X9_meets (σ : sx_T) (t : Nat) (x1 : Int32) (x2 : Int32) (x3 : Int32) (x4 : Int32) (x5 : Int64) (x7 : Int32) : Option (Int32 × sx_T) :=
  if x2 ≤ (sx_I σ t 27) then
    if x3 = 0 then
      some (x3, σ)
    else
      br (f_X9_adds σ t x1 x4 x5) fun u4 =>
      some (x3, (wx_I u4 t 27 ((sx_I u4 t 27) + 1)))
  else
    qv (sx_R σ t 14) fun w7 =>
    bq w7 fun a8 =>
    ck ((160 * x1) + (sx_I σ t 27)) (sx_N σ a8) <|
    if (sx_I σ a8 (ti ((160 * x1) + (sx_I σ t 27)))) = x4 then
      if x7 = 0 then
        qv (sx_R σ t 15) fun w12 =>
        bq w12 fun a13 =>
        ck ((160 * x1) + (sx_I σ t 27)) (sx_N σ a13) <|
        if (lg_cmp (sx_J σ a13 (ti ((160 * x1) + (sx_I σ t 27)))) x5) = 0 then
          fb_X9_meets_55 σ t
        else
          fb_X9_meets_59 σ t
      else
        fb_X9_meets_55 σ t
    else
      fb_X9_meets_59 σ t
def f_X9_makesTask (σ : sx_T) (t : Nat) (x1 : Int32) (x2 : Int32) : Option (Int32 × sx_T) :=
  qv (sx_R σ t 17) fun w1 =>
  bq w1 fun a2 =>
  ck (sx_I σ t 16) (sx_N σ a2) <|
  qv (sx_R σ t 18) fun w5 =>
  bq w5 fun a6 =>
  ck (sx_I σ t 16) (sx_N σ a6) <|
  qv (sx_R σ t 19) fun w9 =>
  bq w9 fun a10 =>
  ck (sx_I σ t 16) (sx_N σ a10) <|
  qv (sx_R σ t 13) fun w13 =>
  bq w13 fun a14 =>
  ck x1 (sx_N σ a14) <|
  some (((sx_I σ t 16) + 1) - 1, (wx_I (wx_I (wx_I (wx_I (wx_I σ a2 (ti (sx_I σ t 16)) x1) a6 (ti (sx_I σ t 16)) x2) a10 (ti (sx_I σ t 16)) 0) a14 (ti x1) (sx_I σ t 16)) t 16 ((sx_I σ t 16) + 1)))
def fb_X9_undoes_88 (σ : sx_T) (t : Nat) (x1 : Int32) (x2 : Int32) (x3 : Int32) (x4 : Int32) (y0 : Int32) : Option (Int32 × sx_T) :=
  bd (f_X9_meets σ t x1 x2 x3 11 x4.toInt64 0) fun r2 u3 =>
  if r2 = 0 then
    some (0, u3)
  else
    if y0 = 0 then
      some (1, (wx_I (wx_I (wx_I u3 t 32 ((sx_I u3 t 32) - 1)) t 30 6) t 31 x4))
    else
      bd (f_X9_makesTask (wx_I (wx_I (wx_I u3 t 32 ((sx_I u3 t 32) - 1)) t 30 6) t 31 x4) t x1 x4) fun r11 u12 =>
      some (1, u12)
def fb_X9_undoes_56 (σ : sx_T) (x4 : Int32) (y0 : Int32) (t : Nat) : Option (Int32 × sx_T) :=
  some (x4, (wx_I σ t 37 y0))
def fb_X9_undoes_15 (σ : sx_T) (t : Nat) (x1 : Int32) (x2 : Int32) (x3 : Int32) : Option (Int32 × sx_T) :=
  bd (f_X9_meets σ t x1 x2 x3 13 ((10 * ((sx_I σ t 29).toInt64)) + ((sx_I σ t 36).toInt64)) 0) fun r2 u3 =>
  if r2 = 0 then
    fb_X9_undoes_56 u3 r2 0 t
  else
    fb_X9_undoes_56 u3 r2 (sx_I u3 t 36) t
def f_X9_undoes (σ : sx_T) (t : Nat) (x1 : Int32) (x2 : Int32) (x3 : Int32) : Option (Int32 × sx_T) :=
  if (sx_I σ t 32) = 0 then
    fb_X9_undoes_15 σ t x1 x2 x3
  else
    if (sx_I σ t 36) = 4 then
      fb_X9_undoes_15 σ t x1 x2 x3
    else
      qv (sx_R σ t 33) fun w3 =>
      bq w3 fun a4 =>
      ck ((sx_I σ t 32) - 1) (sx_N σ a4) <|
      if (sx_I σ t 27) < x2 then
        fb_X9_undoes_88 σ t x1 x2 x3 (sx_I σ a4 (ti ((sx_I σ t 32) - 1))) 0
      else
        fb_X9_undoes_88 σ t x1 x2 x3 (sx_I σ a4 (ti ((sx_I σ t 32) - 1))) 1
def f_X9_isBounded (σ : sx_T) (x0 : Int32) : Option Int32 :=
  if x0 = 1 then
    some 1
  else
    if x0 = 2 then
      some 1
    else
      if x0 = 4 then
        some 1
      else
        if x0 = 9 then
          some 1
        else
          if x0 = 10 then
            some 1
          else
            if x0 = 11 then
              some 1
            else
              if x0 = 14 then
                some 1
              else
                if x0 = 17 then
                  some 1
                else
                  some 0
def f_X9_latestNumber (σ : sx_T) (t : Nat) (x1 : Int32) : Option Int64 :=
  qv (sx_R σ t 15) fun w1 =>
  bq w1 fun a2 =>
  ck (((160 * x1) + (sx_I σ t 27)) - 1) (sx_N σ a2) <|
  some (sx_J σ a2 (ti (((160 * x1) + (sx_I σ t 27)) - 1)))
def fb_X9_begets_62 (σ : sx_T) (t : Nat) (x2 : Int32) (x5 : Int32) (y0 : Int32) (y1 : Int32) (w2_ : Option Nat) : Option (Int32 × sx_T) :=
  bq w2_ fun a1 =>
  ck y1 (sx_N σ a1) <|
  qv (sx_R σ t 13) fun w4 =>
  bq w4 fun a5 =>
  ck x5 (sx_N σ a5) <|
  br (f_X9_adds (wx_I (wx_I σ a1 (ti y1) y0) a5 (ti x5) (-1)) t x5 0 x2.toInt64) fun u9 =>
  some (x5, u9)
def f_X9_begets (σ : sx_T) (t : Nat) (x1 : Int32) (x2 : Int32) (x3 : Int32) (x4 : Int32) : Option (Int32 × sx_T) :=
  if (sx_I σ t 6) = 40 then
    some ((-1), σ)
  else
    qv (sx_R σ t 7) fun w3 =>
    bq w3 fun a4 =>
    ck (sx_I σ t 6) (sx_N σ a4) <|
    qv (sx_R σ t 8) fun w7 =>
    bq w7 fun a8 =>
    ck (sx_I σ t 6) (sx_N σ a8) <|
    qv (sx_R σ t 9) fun w11 =>
    if x4 = (-1) then
      fb_X9_begets_62 (wx_I (wx_I (wx_I σ t 6 ((sx_I σ t 6) + 1)) a4 (ti (sx_I σ t 6)) x1) a8 (ti (sx_I σ t 6)) x3) t x2 (sx_I σ t 6) (sx_I σ t 6) (sx_I σ t 6) w11
    else
      fb_X9_begets_62 (wx_I (wx_I (wx_I σ t 6 ((sx_I σ t 6) + 1)) a4 (ti (sx_I σ t 6)) x1) a8 (ti (sx_I σ t 6)) x3) t x2 (sx_I σ t 6) x4 (sx_I σ t 6) w11
def f_X9_starts (σ : sx_T) (t : Nat) (x1 : Int32) (x2 : Int32) (x3 : Int32) (x4 : Int32) (x5 : Int32) (x6 : Int32) (x7 : Int32) : Option (Int32 × sx_T) :=
  if x2 ≤ (sx_I σ t 27) then
    if x3 = 0 then
      some (x3, σ)
    else
      bd (f_X9_begets σ t x5 (sx_I σ t 29) x6 x7) fun r4 u5 =>
      br (f_X9_adds (wx_I u5 t 48 r4) t x1 x4 r4.toInt64) fun u9 =>
      some (x3, (wx_I u9 t 27 ((sx_I u9 t 27) + 1)))
  else
    bd (f_X9_meets σ t x1 x2 x3 x4 0 1) fun r13 u14 =>
    some (r13, u14)
def fb_X9_draws_70 (σ : sx_T) (x5 : Int32) (y0 : Int32) (t : Nat) : Option (Int32 × sx_T) :=
  some (x5, (wx_I σ t 29 y0))
def fb_X9_draws_29 (σ : sx_T) (t : Nat) (x1 : Int32) (x2 : Int32) (x3 : Int32) (x4 : Int32) : Option (Int32 × sx_T) :=
  nz (x4 + 1) <|
  bd (f_X9_meets σ t x1 x2 x3 9 ((jrem (sx_I σ t 2) (x4 + 1)).toInt64) 1) fun r3 u4 =>
  if r3 = 0 then
    fb_X9_draws_70 u4 r3 (sx_I u4 t 29) t
  else
    br (f_X9_latestNumber u4 t x1) fun r8 =>
    fb_X9_draws_70 u4 r3 r8.toInt32 t
def f_X9_draws (σ : sx_T) (t : Nat) (x1 : Int32) (x2 : Int32) (x3 : Int32) (x4 : Int32) : Option (Int32 × sx_T) :=
  if (sx_I σ t 27) < x2 then
    fb_X9_draws_29 σ t x1 x2 x3 x4
  else
    if x3 = 0 then
      fb_X9_draws_29 σ t x1 x2 x3 x4
    else
      fb_X9_draws_29 (wx_I σ t 2 (jrem ((75 * (sx_I σ t 2)) + 74) 65537)) t x1 x2 x3 x4
def fb_X9_steps_1085 (n0 : Nat) (σ : sx_T) (t : Nat) (x8 : Int32) (x10 : Int32) : Option (Int32 × sx_T) :=
  if x10 = 0 then
    if (sx_I σ t 26) = 0 then
      some (x10, σ)
    else
      some (x10, (wx_I (wx_I σ t 28 x8) t 38 ((sx_I σ t 38) - 1)))
  else
    some (x10, σ)
def fb_X9_steps_1082 (n0 : Nat) (σ : sx_T) (t : Nat) (x8 : Int32) (x10 : Int32) (y0 : Int32) : Option (Int32 × sx_T) :=
  fb_X9_steps_1085 n0 (wx_I σ t 36 y0) t x8 x10
def fb_X9_steps_1049 (n0 : Nat) (σ : sx_T) (t : Nat) (x1 : Int32) (x8 : Int32) (y0 : Int32) (y1 : Int32) (y2 : Int32) (y3 : Int32) (y4 : Int32) (y5 : Int32) (y6 : Int32) : Option (Int32 × sx_T) :=
  bd (f_X9_starts σ t y6 y5 y4 y3 y2 y1 y0) fun r2 u3 =>
  if r2 = 0 then
    fb_X9_steps_1082 n0 u3 t x8 r2 (sx_I u3 t 36)
  else
    br (f_X9_latestNumber u3 t x1) fun r7 =>
    if 0 ≤ (lg_cmp r7 0) then
      fb_X9_steps_1082 n0 u3 t x8 r2 4
    else
      fb_X9_steps_1082 n0 u3 t x8 r2 2
def fb_X9_steps_1000 (n0 : Nat) (σ : sx_T) (t : Nat) (x8 : Int32) (x10 : Int32) (y0 : Int32) : Option (Int32 × sx_T) :=
  fb_X9_steps_1085 n0 (wx_I (wx_I σ t 36 y0) t 35 0) t x8 x10
def fb_X9_steps_965 (n0 : Nat) (σ : sx_T) (t : Nat) (x8 : Int32) (x10 : Int32) (y0 : Int32) : Option (Int32 × sx_T) :=
  fb_X9_steps_1085 n0 (wx_I σ t 29 y0) t x8 x10
def fb_X9_steps_930 (n0 : Nat) (σ : sx_T) (t : Nat) (x8 : Int32) (x10 : Int32) (y0 : Int32) : Option (Int32 × sx_T) :=
  fb_X9_steps_1085 n0 (wx_I σ t 29 y0) t x8 x10
def fb_X9_steps_915 (n0 : Nat) (σ : sx_T) (t : Nat) (x8 : Int32) (x10 : Int32) (x11 : Int32) (y0 : Int32) (y1 : Int32) : Option (Int32 × sx_T) :=
  if x11 = 0 then
    fb_X9_steps_930 n0 (wx_I σ t 27 (y1 + y0)) t x8 x10 0
  else
    fb_X9_steps_930 n0 (wx_I σ t 27 (y1 + y0)) t x8 x10 1
def fb_X9_steps_898 (n0 : Nat) (σ : sx_T) (t : Nat) (x8 : Int32) (x10 : Int32) (y0 : Int32) : Option (Int32 × sx_T) :=
  if y0 = 0 then
    fb_X9_steps_915 n0 σ t x8 x10 y0 0 (sx_I σ t 27)
  else
    fb_X9_steps_915 n0 σ t x8 x10 y0 1 (sx_I σ t 27)
def fb_X9_steps_897 (n0 : Nat) (σ : sx_T) (t : Nat) (x8 : Int32) (x10 : Int32) : Option (Int32 × sx_T) :=
  fb_X9_steps_898 n0 σ t x8 x10 0
def fb_X9_steps_791 (n0 : Nat) (σ : sx_T) (t : Nat) (x8 : Int32) (x10 : Int32) (y0 : Int32) : Option (Int32 × sx_T) :=
  fb_X9_steps_1085 n0 (wx_I σ t 29 y0) t x8 x10
def fb_X9_steps_787 (n0 : Nat) (σ : sx_T) (t : Nat) (x8 : Int32) (x10 : Int32) : Option (Int32 × sx_T) :=
  fb_X9_steps_791 n0 σ t x8 x10 (sx_I σ t 29)
def fb_X9_steps_759 (n0 : Nat) (σ : sx_T) (t : Nat) (x1 : Int32) (x8 : Int32) (x10 : Int32) (y0 : Int32) : Option (Int32 × sx_T) :=
  if x10 = 0 then
    fb_X9_steps_787 n0 (wx_I σ t 36 y0) t x8 x10
  else
    br (f_X9_latestNumber (wx_I σ t 36 y0) t x1) fun r4 =>
    if (lg_cmp r4 0) < 0 then
      fb_X9_steps_787 n0 (wx_I σ t 36 y0) t x8 x10
    else
      br (f_X9_latestNumber (wx_I σ t 36 y0) t x1) fun r8 =>
      fb_X9_steps_791 n0 (wx_I σ t 36 y0) t x8 x10 r8.toInt32
def fb_X9_steps_755 (n0 : Nat) (σ : sx_T) (t : Nat) (x1 : Int32) (x8 : Int32) (x10 : Int32) : Option (Int32 × sx_T) :=
  fb_X9_steps_759 n0 σ t x1 x8 x10 (sx_I σ t 36)
def fb_X9_steps_711 (n0 : Nat) (σ : sx_T) (t : Nat) (x8 : Int32) (x10 : Int32) (y0 : Int32) : Option (Int32 × sx_T) :=
  fb_X9_steps_1085 n0 (wx_I σ t 31 y0) t x8 x10
def fb_X9_steps_692 (n0 : Nat) (σ : sx_T) (t : Nat) (x1 : Int32) (x8 : Int32) (x10 : Int32) (y0 : Int32) : Option (Int32 × sx_T) :=
  if x10 = 0 then
    fb_X9_steps_711 n0 (wx_I σ t 36 y0) t x8 x10 0
  else
    br (f_X9_latestNumber (wx_I σ t 36 y0) t x1) fun r4 =>
    fb_X9_steps_711 n0 (wx_I σ t 36 y0) t x8 x10 r4.toInt32
def fb_X9_steps_688 (n0 : Nat) (σ : sx_T) (t : Nat) (x1 : Int32) (x8 : Int32) (x10 : Int32) : Option (Int32 × sx_T) :=
  fb_X9_steps_692 n0 σ t x1 x8 x10 (sx_I σ t 36)
def fb_X9_steps_665 (n0 : Nat) (σ : sx_T) (t : Nat) (x1 : Int32) (x8 : Int32) (x10 : Int32) (y0 : Int32) : Option (Int32 × sx_T) :=
  if x10 = 0 then
    fb_X9_steps_688 n0 (wx_I σ t 30 y0) t x1 x8 x10
  else
    br (f_X9_latestNumber (wx_I σ t 30 y0) t x1) fun r4 =>
    if 0 ≤ (lg_cmp r4 0) then
      fb_X9_steps_688 n0 (wx_I σ t 30 y0) t x1 x8 x10
    else
      fb_X9_steps_692 n0 (wx_I σ t 30 y0) t x1 x8 x10 2
def fb_X9_steps_664 (n0 : Nat) (σ : sx_T) (t : Nat) (x1 : Int32) (x8 : Int32) (x10 : Int32) : Option (Int32 × sx_T) :=
  fb_X9_steps_665 n0 σ t x1 x8 x10 0
def fb_X9_steps_580 (n0 : Nat) (σ : sx_T) (t : Nat) (x8 : Int32) (x10 : Int32) (y0 : Int32) : Option (Int32 × sx_T) :=
  fb_X9_steps_1085 n0 (wx_I σ t 28 y0) t x8 x10
def fb_X9_steps_548 (n0 : Nat) (σ : sx_T) (t : Nat) (x6 : Int32) (x8 : Int32) (x10 : Int32) (y0 : Int32) : Option (Int32 × sx_T) :=
  fb_X9_steps_1085 n0 (wx_I (wx_I σ t 49 y0) t 31 x6) t x8 x10
def fb_X9_steps_529 (n0 : Nat) (σ : sx_T) (t : Nat) (x1 : Int32) (x6 : Int32) (x8 : Int32) (x10 : Int32) (y0 : Int32) : Option (Int32 × sx_T) :=
  if x10 = 0 then
    fb_X9_steps_548 n0 (wx_I σ t 30 y0) t x6 x8 x10 0
  else
    br (f_X9_latestNumber (wx_I σ t 30 y0) t x1) fun r4 =>
    fb_X9_steps_548 n0 (wx_I σ t 30 y0) t x6 x8 x10 r4.toInt32
def fb_X9_steps_510 (n0 : Nat) (σ : sx_T) (t : Nat) (x1 : Int32) (x6 : Int32) (x8 : Int32) (y0 : Int32) (y1 : Int32) (y2 : Int32) (y3 : Int32) (y4 : Int32) (y5 : Int32) : Option (Int32 × sx_T) :=
  bd (f_X9_meets σ t y5 y4 y3 y2 ((y1 + y0).toInt64) 1) fun r2 u3 =>
  if r2 = 0 then
    fb_X9_steps_529 n0 u3 t x1 x6 x8 r2 0
  else
    fb_X9_steps_529 n0 u3 t x1 x6 x8 r2 4
def fb_X9_steps_446 (n0 : Nat) (σ : sx_T) (t : Nat) (x6 : Int32) (x8 : Int32) (x10 : Int32) (y0 : Int32) : Option (Int32 × sx_T) :=
  fb_X9_steps_1085 n0 (wx_I (wx_I σ t 30 y0) t 31 x6) t x8 x10
def fb_X9_steps_431 (n0 : Nat) (σ : sx_T) (t : Nat) (x6 : Int32) (x8 : Int32) (x9 : Int32) (x10 : Int32) (y0 : Int32) : Option (Int32 × sx_T) :=
  if x9 = (-1) then
    fb_X9_steps_446 n0 (wx_I σ t 29 y0) t x6 x8 x10 3
  else
    fb_X9_steps_446 n0 (wx_I σ t 29 y0) t x6 x8 x10 0
def fb_X9_steps_397 (n0 : Nat) (σ : sx_T) (t : Nat) (x8 : Int32) (x10 : Int32) (y0 : Int32) : Option (Int32 × sx_T) :=
  fb_X9_steps_1085 n0 (wx_I (wx_I σ t 31 y0) t 49 y0) t x8 x10
def fb_X9_steps_378 (n0 : Nat) (σ : sx_T) (t : Nat) (x1 : Int32) (x8 : Int32) (x10 : Int32) (y0 : Int32) : Option (Int32 × sx_T) :=
  if x10 = 0 then
    fb_X9_steps_397 n0 (wx_I σ t 30 y0) t x8 x10 0
  else
    br (f_X9_latestNumber (wx_I σ t 30 y0) t x1) fun r4 =>
    fb_X9_steps_397 n0 (wx_I σ t 30 y0) t x8 x10 r4.toInt32
def fb_X9_steps_359 (n0 : Nat) (σ : sx_T) (t : Nat) (x1 : Int32) (x8 : Int32) (y0 : Int32) (y1 : Int32) (y2 : Int32) (y3 : Int32) (y4 : Int32) (y5 : Int32) : Option (Int32 × sx_T) :=
  bd (f_X9_meets σ t y5 y4 y3 y2 ((y1 + y0).toInt64) 1) fun r2 u3 =>
  if r2 = 0 then
    fb_X9_steps_378 n0 u3 t x1 x8 r2 0
  else
    fb_X9_steps_378 n0 u3 t x1 x8 r2 2
def fb_X9_steps_286 (n0 : Nat) (σ : sx_T) (t : Nat) (x8 : Int32) (x10 : Int32) (y0 : Int32) : Option (Int32 × sx_T) :=
  fb_X9_steps_1085 n0 (wx_I σ t 37 y0) t x8 x10
def fb_X9_steps_164 (n0 : Nat) (σ : sx_T) (t : Nat) (x1 : Int32) (x2 : Int32) (x3 : Int32) (x4 : Int32) (x5 : Int32) (x6 : Int32) (x7 : Int32) (x8 : Int32) (x9 : Int32) : Option (Int32 × sx_T) :=
  if x5 = 0 then
    bd (f_X9_meets σ t x1 x2 x3 13 ((10 * ((sx_I σ t 29).toInt64)) + 1) 0) fun r3 u4 =>
    if r3 = 0 then
      fb_X9_steps_286 n0 u4 t x8 r3 0
    else
      fb_X9_steps_286 n0 u4 t x8 r3 1
  else
  if x5 = 1 then
    bd (f_X9_meets σ t x1 x2 x3 1 x6.toInt64 0) fun r9 u10 =>
    if r9 = 0 then
      fb_X9_steps_1085 n0 u10 t x8 r9
    else
      if x7 = 0 then
        fb_X9_steps_1085 n0 (wx_I (wx_I u10 t 30 1) t 31 x6) t x8 r9
      else
        bd (f_X9_makesTask (wx_I (wx_I u10 t 30 1) t 31 x6) t x1 x6) fun r17 u18 =>
        fb_X9_steps_1085 n0 u18 t x8 r9
  else
  if x5 = 2 then
    if 1 ≤ x6 then
      fb_X9_steps_359 n0 σ t x1 x8 x6 (sx_I σ t 1) 4 x3 x2 x1
    else
      fb_X9_steps_359 n0 σ t x1 x8 1 (sx_I σ t 1) 4 x3 x2 x1
  else
  if x5 = 3 then
    if x9 = (-1) then
      fb_X9_steps_431 n0 σ t x6 x8 x9 1 (sx_I σ t 29)
    else
      bd (f_X9_uses n0 σ t x9) fun r25 u26 =>
      fb_X9_steps_431 n0 u26 t x6 x8 x9 1 r25
  else
  if x5 = 4 then
    if x9 = (-1) then
      qv (sx_R σ t 5) fun w30 =>
      bq w30 fun a31 =>
      ck x4 (sx_N σ a31) <|
      if 1 ≤ (sx_I σ a31 (ti x4)) then
        qv (sx_R σ t 5) fun w34 =>
        bq w34 fun a35 =>
        ck x4 (sx_N σ a35) <|
        fb_X9_steps_510 n0 σ t x1 x6 x8 (sx_I σ a35 (ti x4)) (sx_I σ t 1) 4 x3 x2 x1
      else
        fb_X9_steps_510 n0 σ t x1 x6 x8 1 (sx_I σ t 1) 4 x3 x2 x1
    else
      bd (f_X9_uses n0 σ t x9) fun r38 u39 =>
      some (1, (wx_I u39 t 29 1))
  else
  if x5 = 5 then
    if (sx_I σ t 29) = 0 then
      fb_X9_steps_580 n0 σ t x8 1 (jrem x6 20)
    else
      fb_X9_steps_580 n0 σ t x8 1 (sx_I σ t 28)
  else
  if x5 = 6 then
    some (1, (wx_I σ t 28 (jrem x6 20)))
  else
  if x5 = 7 then
    some (1, (wx_I σ t 29 ((sx_I σ t 29) + x6)))
  else
  if x5 = 8 then
    some (1, (wx_I σ t 29 ((sx_I σ t 29) - x6)))
  else
  if x5 = 9 then
    bd (f_X9_starts σ t x1 x2 x3 7 (jrem x6 6) x1 (-1)) fun r52 u53 =>
    if r52 = 0 then
      fb_X9_steps_664 n0 u53 t x1 x8 r52
    else
      br (f_X9_latestNumber u53 t x1) fun r57 =>
      if (lg_cmp r57 0) < 0 then
        fb_X9_steps_664 n0 u53 t x1 x8 r52
      else
        fb_X9_steps_665 n0 u53 t x1 x8 r52 5
  else
  if x5 = 10 then
    bd (f_X9_starts σ t x1 x2 x3 14 (jrem x6 6) (-1) (-1)) fun r62 u63 =>
    if r62 = 0 then
      fb_X9_steps_755 n0 u63 t x1 x8 r62
    else
      br (f_X9_latestNumber u63 t x1) fun r67 =>
      if 0 ≤ (lg_cmp r67 0) then
        fb_X9_steps_755 n0 u63 t x1 x8 r62
      else
        fb_X9_steps_759 n0 u63 t x1 x8 r62 2
  else
  if x5 = 11 then
    bd (f_X9_draws σ t x1 x2 x3 x6) fun r72 u73 =>
    fb_X9_steps_1085 n0 u73 t x8 r72
  else
  if x5 = 12 then
    qv (sx_R σ t 33) fun w76 =>
    bq w76 fun a77 =>
    ck (sx_I σ t 32) (sx_N σ a77) <|
    some (1, (wx_I (wx_I σ a77 (ti (sx_I σ t 32)) x6) t 32 ((sx_I σ t 32) + 1)))
  else
  if x5 = 13 then
    some (1, (wx_I σ t 36 2))
  else
  if x5 = 14 then
    if x2 ≤ (sx_I σ t 27) then
      bd (f_X9_meets σ t x1 x2 x3 10 x6.toInt64 0) fun r86 u87 =>
      if r86 = 0 then
        fb_X9_steps_965 n0 u87 t x8 r86 (sx_I u87 t 29)
      else
        fb_X9_steps_965 n0 u87 t x8 r86 1
    else
      qv (sx_R σ t 14) fun w90 =>
      bq w90 fun a91 =>
      ck ((160 * x1) + (sx_I σ t 27)) (sx_N σ a91) <|
      if (sx_I σ a91 (ti ((160 * x1) + (sx_I σ t 27)))) = 10 then
        qv (sx_R σ t 15) fun w94 =>
        bq w94 fun a95 =>
        ck ((160 * x1) + (sx_I σ t 27)) (sx_N σ a95) <|
        if (lg_cmp (sx_J σ a95 (ti ((160 * x1) + (sx_I σ t 27)))) x6.toInt64) = 0 then
          fb_X9_steps_898 n0 σ t x8 1 1
        else
          fb_X9_steps_897 n0 σ t x8 1
      else
        fb_X9_steps_897 n0 σ t x8 1
  else
  if x5 = 15 then
    some (1, (wx_I σ t 34 1))
  else
  if x5 = 16 then
    if (sx_I σ t 35) = 0 then
      fb_X9_steps_1000 n0 (wx_I σ t 34 0) t x8 1 (sx_I σ t 36)
    else
      fb_X9_steps_1000 n0 (wx_I σ t 34 0) t x8 1 3
  else
  qv (sx_R σ t 7) fun w103 =>
  bq w103 fun a104 =>
  ck x1 (sx_N σ a104) <|
  qv (sx_R σ t 8) fun w106 =>
  bq w106 fun a107 =>
  ck x1 (sx_N σ a107) <|
  qv (sx_R σ t 8) fun w109 =>
  bq w109 fun a110 =>
  ck x1 (sx_N σ a110) <|
  if (sx_I σ a110 (ti x1)) = (-1) then
    fb_X9_steps_1049 n0 σ t x1 x8 (-1) (sx_I σ a107 (ti x1)) (sx_I σ a104 (ti x1)) 14 x3 x2 x1
  else
    qv (sx_R σ t 9) fun w113 =>
    bq w113 fun a114 =>
    ck x1 (sx_N σ a114) <|
    fb_X9_steps_1049 n0 σ t x1 x8 (sx_I σ a114 (ti x1)) (sx_I σ a107 (ti x1)) (sx_I σ a104 (ti x1)) 14 x3 x2 x1
def fb_X9_steps_157 (n0 : Nat) (σ : sx_T) (t : Nat) : Option (Int32 × sx_T) :=
  some (1, (wx_I σ t 36 2))
def fb_X9_steps_141 (n0 : Nat) (σ : sx_T) (t : Nat) (x1 : Int32) (x2 : Int32) (x3 : Int32) (x4 : Int32) (x5 : Int32) (x6 : Int32) (x7 : Int32) (x8 : Int32) (x9 : Int32) : Option (Int32 × sx_T) :=
  if x5 = 12 then
    if (sx_I σ t 32) = 20 then
      fb_X9_steps_157 n0 σ t
    else
      fb_X9_steps_164 n0 σ t x1 x2 x3 x4 x5 x6 x7 x8 x9
  else
    fb_X9_steps_164 n0 σ t x1 x2 x3 x4 x5 x6 x7 x8 x9
def fb_X9_steps_116 (n0 : Nat) (σ : sx_T) (t : Nat) (x1 : Int32) (x2 : Int32) (x3 : Int32) (x4 : Int32) (x5 : Int32) (x6 : Int32) (x7 : Int32) (x8 : Int32) (y0 : Int32) : Option (Int32 × sx_T) :=
  br (f_X9_isBounded σ x5) fun r2 =>
  if r2 = 0 then
    fb_X9_steps_141 n0 σ t x1 x2 x3 x4 x5 x6 x7 x8 y0
  else
    if y0 = (-1) then
      if 60 ≤ (sx_I σ t 27) then
        fb_X9_steps_157 n0 σ t
      else
        fb_X9_steps_141 n0 σ t x1 x2 x3 x4 x5 x6 x7 x8 y0
    else
      fb_X9_steps_141 n0 σ t x1 x2 x3 x4 x5 x6 x7 x8 y0
def fb_X9_steps_106 (n0 : Nat) (σ : sx_T) (t : Nat) (x1 : Int32) (x2 : Int32) (x3 : Int32) (x4 : Int32) (x5 : Int32) (x6 : Int32) (x7 : Int32) (x8 : Int32) : Option (Int32 × sx_T) :=
  br (f_X9_keptOf n0 σ t x6) fun r2 =>
  fb_X9_steps_116 n0 σ t x1 x2 x3 x4 x5 x6 x7 x8 r2
def fb_X9_steps_63 (n0 : Nat) (σ : sx_T) (t : Nat) (x1 : Int32) (x2 : Int32) (x3 : Int32) (x4 : Int32) (x5 : Int32) (x6 : Int32) (y0 : Int32) : Option (Int32 × sx_T) :=
  if x5 = 3 then
    fb_X9_steps_106 n0 (wx_I (wx_I σ t 38 ((sx_I σ t 38) + 1)) t 28 (jrem ((sx_I σ t 28) + 1) 20)) t x1 x2 x3 x4 x5 x6 y0 (sx_I σ t 28)
  else
    if x5 = 4 then
      fb_X9_steps_106 n0 (wx_I (wx_I σ t 38 ((sx_I σ t 38) + 1)) t 28 (jrem ((sx_I σ t 28) + 1) 20)) t x1 x2 x3 x4 x5 x6 y0 (sx_I σ t 28)
    else
      fb_X9_steps_116 n0 (wx_I (wx_I σ t 38 ((sx_I σ t 38) + 1)) t 28 (jrem ((sx_I σ t 28) + 1) 20)) t x1 x2 x3 x4 x5 x6 y0 (sx_I σ t 28) (-1)
def f_X9_steps (n0 : Nat) (σ : sx_T) (t : Nat) (x1 : Int32) (x2 : Int32) (x3 : Int32) : Option (Int32 × sx_T) :=
  if (sx_I σ t 38) = 60 then
    some (1, (wx_I σ t 36 2))
  else
    qv (sx_R σ t 7) fun w3 =>
    bq w3 fun a4 =>
    ck x1 (sx_N σ a4) <|
    qv (sx_R σ t 3) fun w6 =>
    bq w6 fun a7 =>
    ck ((20 * (sx_I σ a4 (ti x1))) + (sx_I σ t 28)) (sx_N σ a7) <|
    qv (sx_R σ t 4) fun w9 =>
    bq w9 fun a10 =>
    ck ((20 * (sx_I σ a4 (ti x1))) + (sx_I σ t 28)) (sx_N σ a10) <|
    if (sx_I σ t 27) < x2 then
      fb_X9_steps_63 n0 σ t x1 x2 x3 ((20 * (sx_I σ a4 (ti x1))) + (sx_I σ t 28)) (sx_I σ a7 (ti ((20 * (sx_I σ a4 (ti x1))) + (sx_I σ t 28)))) (sx_I σ a10 (ti ((20 * (sx_I σ a4 (ti x1))) + (sx_I σ t 28)))) 0
    else
      fb_X9_steps_63 n0 σ t x1 x2 x3 ((20 * (sx_I σ a4 (ti x1))) + (sx_I σ t 28)) (sx_I σ a7 (ti ((20 * (sx_I σ a4 (ti x1))) + (sx_I σ t 28)))) (sx_I σ a10 (ti ((20 * (sx_I σ a4 (ti x1))) + (sx_I σ t 28)))) 1
def fb_X9_replays_131 (n0 : Nat) (kl62 : sx_T → Nat → Int32 → Int32 → Int32 → Int32 → Option (Int32 × sx_T)) (σ : sx_T) (t : Nat) (x1 : Int32) (x2 : Int32) (x3 : Int32) (x4 : Int32) : Option (Int32 × sx_T) :=
  br (f_X9_comes n0 σ t x1) fun u2 =>
  kl62 u2 t x1 x2 x3 x4
def fb_X9_replays_95 (n0 : Nat) (kl62 : sx_T → Nat → Int32 → Int32 → Int32 → Int32 → Option (Int32 × sx_T)) (σ : sx_T) (t : Nat) (x1 : Int32) (x2 : Int32) (x3 : Int32) (y0 : Int32) : Option (Int32 × sx_T) :=
  kl62 (wx_I σ t 26 y0) t x1 x2 x3 0
def fl_X9_replays_62 (n0 : Nat) : Nat → sx_T → Nat → Int32 → Int32 → Int32 → Int32 → Option (Int32 × sx_T)
  | 0 => fun _ _ _ _ _ _ => none
  | n + 1 => fun σ t x1 x2 x3 x4 =>
    if x4 = 0 then
      some ((-1), σ)
    else
      if (sx_I σ t 26) = 0 then
        some ((-1), σ)
      else
        if (sx_I σ t 37) ≤ 0 then
          if (sx_I σ t 30) = 0 then
            if (sx_I σ t 36) ≤ 0 then
              bd (f_X9_steps n0 σ t x1 x2 x3) fun r7 u8 =>
              if (sx_I u8 t 48) = (-1) then
                fl_X9_replays_62 n0 n u8 t x1 x2 x3 r7
              else
                some (sx_I u8 t 48, u8)
            else
              bd (f_X9_undoes σ t x1 x2 x3) fun r12 u13 =>
              fl_X9_replays_62 n0 n u13 t x1 x2 x3 r12
          else
            if x2 ≤ (sx_I σ t 27) then
              fl_X9_replays_62 n0 n σ t x1 x2 x3 0
            else
              fb_X9_replays_131 n0 (fl_X9_replays_62 n0 n) σ t x1 x2 x3 1
        else
          if (sx_I σ t 27) < x2 then
            fb_X9_replays_95 n0 (fl_X9_replays_62 n0 n) σ t x1 x2 x3 0
          else
            fb_X9_replays_95 n0 (fl_X9_replays_62 n0 n) σ t x1 x2 x3 1
def fb_X9_replays_28 (n0 : Nat) (σ : sx_T) (t : Nat) (x1 : Int32) (x2 : Int32) (x3 : Int32) (y0 : Int32) : Option (Int32 × sx_T) :=
  qv (sx_R σ t 15) fun w2 =>
  bq w2 fun a3 =>
  ck (160 * x1) (sx_N σ a3) <|
  fl_X9_replays_62 n0 n0 (wx_I (wx_I (wx_I (wx_I σ t 26 y0) t 29 ((sx_J σ a3 (ti (160 * x1))).toInt32)) t 27 1) t 48 (-1)) t x1 x2 x3 y0
def f_X9_replays (n0 : Nat) (σ : sx_T) (t : Nat) (x1 : Int32) (x2 : Int32) (x3 : Int32) : Option (Int32 × sx_T) :=
  br (f_X9_begins σ t) fun u2 =>
  qv (sx_R u2 t 14) fun w5 =>
  bq w5 fun a6 =>
  ck (160 * x1) (sx_N u2 a6) <|
  if (sx_I u2 a6 (ti (160 * x1))) = 0 then
    fb_X9_replays_28 n0 (wx_I u2 t 47 x3) t x1 x2 x3 1
  else
    fb_X9_replays_28 n0 (wx_I u2 t 47 x3) t x1 x2 x3 0
def f_X9_isFit (n0 : Nat) (σ : sx_T) (t : Nat) (x1 : Int32) : Option (Int32 × sx_T) :=
  qv (sx_R σ t 11) fun w1 =>
  bq w1 fun a2 =>
  ck x1 (sx_N σ a2) <|
  bd (f_X9_replays n0 σ t x1 (sx_I σ a2 (ti x1)) 0) fun r5 u6 =>
  some (sx_I u6 t 26, u6)
def f_X9_closes (σ : sx_T) (t : Nat) (x1 : Int32) : Option sx_T :=
  qv (sx_R σ t 19) fun w1 =>
  bq w1 fun a2 =>
  ck x1 (sx_N σ a2) <|
  qv (sx_R σ t 22) fun w5 =>
  bq w5 fun a6 =>
  ck x1 (sx_N σ a6) <|
  some (wx_I (wx_I σ a2 (ti x1) 3) a6 (ti x1) 0)
def fb_X9_rests_102 (n0 : Nat) (σ : sx_T) (t : Nat) (x1 : Int32) : Option sx_T :=
  if (sx_I σ t 37) ≤ 0 then
    some σ
  else
    qv (sx_R σ t 10) fun w2 =>
    bq w2 fun a3 =>
    ck x1 (sx_N σ a3) <|
    qv (sx_R σ t 8) fun w6 =>
    bq w6 fun a7 =>
    ck x1 (sx_N σ a7) <|
    if (sx_I σ t 37) = 4 then
      some (wx_I σ a3 (ti x1) (sx_I σ t 37))
    else
      if (sx_I (wx_I σ a3 (ti x1) (sx_I σ t 37)) a7 (ti x1)) = (-1) then
        some (wx_I σ a3 (ti x1) (sx_I σ t 37))
      else
        qv (sx_R σ t 10) fun w11 =>
        bq w11 fun a12 =>
        ck (sx_I (wx_I σ a3 (ti x1) (sx_I σ t 37)) a7 (ti x1)) (sx_N σ a12) <|
        if (sx_I (wx_I σ a3 (ti x1) (sx_I σ t 37)) a12 (ti (sx_I (wx_I σ a3 (ti x1) (sx_I σ t 37)) a7 (ti x1)))) = 0 then
          qv (sx_R σ t 11) fun w15 =>
          bq w15 fun a16 =>
          ck (sx_I (wx_I σ a3 (ti x1) (sx_I σ t 37)) a7 (ti x1)) (sx_N σ a16) <|
          bd (f_X9_replays n0 (wx_I σ a3 (ti x1) (sx_I σ t 37)) t (sx_I (wx_I σ a3 (ti x1) (sx_I σ t 37)) a7 (ti x1)) (sx_I (wx_I σ a3 (ti x1) (sx_I σ t 37)) a16 (ti (sx_I (wx_I σ a3 (ti x1) (sx_I σ t 37)) a7 (ti x1)))) 0) fun r19 u20 =>
          if (sx_I u20 t 26) = 0 then
            some u20
          else
            if (sx_I u20 t 30) = 5 then
              qv (sx_R u20 t 9) fun w24 =>
              bq w24 fun a25 =>
              ck x1 (sx_N u20 a25) <|
              if (sx_I u20 t 31) = (sx_I u20 a25 (ti x1)) then
                br (f_X9_adds u20 t (sx_I (wx_I σ a3 (ti x1) (sx_I σ t 37)) a7 (ti x1)) 8 ((10 * ((sx_I σ t 29).toInt64)) + ((sx_I σ t 37).toInt64))) fun u29 =>
                qv (sx_R u29 t 44) fun w31 =>
                bq w31 fun a32 =>
                ck (sx_I u29 t 43) (sx_N u29 a32) <|
                some (wx_I (wx_I u29 a32 (ti (sx_I u29 t 43)) (sx_I (wx_I σ a3 (ti x1) (sx_I σ t 37)) a7 (ti x1))) t 43 ((sx_I u29 t 43) + 1))
              else
                some u20
            else
              some u20
        else
          some (wx_I σ a3 (ti x1) (sx_I σ t 37))
def fb_X9_rests_67 (n0 : Nat) (kl25 : sx_T → Nat → Int32 → Int32 → Int32 → Option sx_T) (σ : sx_T) (t : Nat) (x1 : Int32) (x2 : Int32) (x3 : Int32) : Option sx_T :=
  br (f_X9_closes σ t x3) fun u2 =>
  kl25 u2 t x1 x2 (x3 + 1)
def fl_X9_rests_25 (n0 : Nat) : Nat → sx_T → Nat → Int32 → Int32 → Int32 → Option sx_T
  | 0 => fun _ _ _ _ _ => none
  | n + 1 => fun σ t x1 x2 x3 =>
    if (sx_I σ t 16) ≤ x3 then
      if x2 = 0 then
        fb_X9_rests_102 n0 σ t x1
      else
        qv (sx_R σ t 13) fun w3 =>
        bq w3 fun a4 =>
        ck x1 (sx_N σ a4) <|
        if (sx_I σ a4 (ti x1)) = (-1) then
          bd (f_X9_makesTask σ t x1 (sx_I σ t 31)) fun r8 u9 =>
          fb_X9_rests_102 n0 u9 t x1
        else
          fb_X9_rests_102 n0 σ t x1
    else
      qv (sx_R σ t 17) fun w11 =>
      bq w11 fun a12 =>
      ck x3 (sx_N σ a12) <|
      if (sx_I σ a12 (ti x3)) = x1 then
        qv (sx_R σ t 19) fun w15 =>
        bq w15 fun a16 =>
        ck x3 (sx_N σ a16) <|
        if (sx_I σ a16 (ti x3)) = 3 then
          fl_X9_rests_25 n0 n σ t x1 x2 (x3 + 1)
        else
          if x2 = 0 then
            fb_X9_rests_67 n0 (fl_X9_rests_25 n0 n) σ t x1 x2 x3
          else
            qv (sx_R σ t 13) fun w20 =>
            bq w20 fun a21 =>
            ck x1 (sx_N σ a21) <|
            if x3 = (sx_I σ a21 (ti x1)) then
              fl_X9_rests_25 n0 n σ t x1 x2 (x3 + 1)
            else
              fb_X9_rests_67 n0 (fl_X9_rests_25 n0 n) σ t x1 x2 x3
      else
        fl_X9_rests_25 n0 n σ t x1 x2 (x3 + 1)
def f_X9_rests (n0 : Nat) (σ : sx_T) (t : Nat) (x1 : Int32) : Option sx_T :=
  if (sx_I σ t 30) = 1 then
    fl_X9_rests_25 n0 n0 σ t x1 1 0
  else
    if (sx_I σ t 30) = 6 then
      fl_X9_rests_25 n0 n0 σ t x1 1 0
    else
      fl_X9_rests_25 n0 n0 σ t x1 0 0
def fb_X9_goesOn_69 (n0 : Nat) (kl9 : sx_T → Nat → Int32 → Option sx_T) (σ : sx_T) (t : Nat) (x2 : Int32) (x3 : Int32) : Option sx_T :=
  qv (sx_R σ t 10) fun w1 =>
  bq w1 fun a2 =>
  ck x3 (sx_N σ a2) <|
  if (sx_I σ a2 (ti x3)) = 0 then
    if (sx_I σ t 26) = 0 then
      kl9 σ t (x2 + (-1))
    else
      qv (sx_R σ t 12) fun w6 =>
      bq w6 fun a7 =>
      ck x3 (sx_N σ a7) <|
      br (f_X9_rests n0 (wx_I σ a7 (ti x3) (sx_I σ t 27)) t x3) fun u11 =>
      kl9 u11 t (x2 + (-1))
  else
    kl9 σ t (x2 + (-1))
def fb_X9_goesOn_47 (n0 : Nat) (kl9 : sx_T → Nat → Int32 → Option sx_T) (σ : sx_T) (t : Nat) (x2 : Int32) (x3 : Int32) (y0 : Int32) : Option sx_T :=
  if y0 = (-1) then
    fb_X9_goesOn_69 n0 kl9 σ t x2 x3
  else
    qv (sx_R σ t 42) fun w2 =>
    bq w2 fun a3 =>
    ck x2 (sx_N σ a3) <|
    kl9 (wx_I σ a3 (ti x2) y0) t (x2 + 1)
def fl_X9_goesOn_9 (n0 : Nat) : Nat → sx_T → Nat → Int32 → Option sx_T
  | 0 => fun _ _ _ => none
  | n + 1 => fun σ t x2 =>
    if x2 ≤ 0 then
      some σ
    else
      qv (sx_R σ t 42) fun w2 =>
      bq w2 fun a3 =>
      ck (x2 - 1) (sx_N σ a3) <|
      qv (sx_R σ t 10) fun w5 =>
      bq w5 fun a6 =>
      ck (sx_I σ a3 (ti (x2 - 1))) (sx_N σ a6) <|
      if (sx_I σ a6 (ti (sx_I σ a3 (ti (x2 - 1))))) ≤ 0 then
        qv (sx_R σ t 11) fun w9 =>
        bq w9 fun a10 =>
        ck (sx_I σ a3 (ti (x2 - 1))) (sx_N σ a10) <|
        bd (f_X9_replays n0 σ t (sx_I σ a3 (ti (x2 - 1))) (sx_I σ a10 (ti (sx_I σ a3 (ti (x2 - 1))))) 1) fun r13 u14 =>
        fb_X9_goesOn_47 n0 (fl_X9_goesOn_9 n0 n) u14 t x2 (sx_I σ a3 (ti (x2 - 1))) r13
      else
        fb_X9_goesOn_69 n0 (fl_X9_goesOn_9 n0 n) σ t x2 (sx_I σ a3 (ti (x2 - 1)))
def f_X9_goesOn (n0 : Nat) (σ : sx_T) (t : Nat) (x1 : Int32) : Option sx_T :=
  qv (sx_R σ t 42) fun w1 =>
  bq w1 fun a2 =>
  ck 0 (sx_N σ a2) <|
  fl_X9_goesOn_9 n0 n0 (wx_I σ a2 (ti 0) x1) t 1
def fl_X9_asks_2 (n0 : Nat) : Nat → sx_T → Nat → Int32 → Int32 → Option (Int32 × sx_T)
  | 0 => fun _ _ _ _ => none
  | n + 1 => fun σ t x1 x2 =>
    if (sx_I σ t 6) ≤ x2 then
      some ((-1), σ)
    else
      qv (sx_R σ t 9) fun w2 =>
      bq w2 fun a3 =>
      ck x2 (sx_N σ a3) <|
      if (sx_I σ a3 (ti x2)) = x1 then
        qv (sx_R σ t 10) fun w6 =>
        bq w6 fun a7 =>
        ck x2 (sx_N σ a7) <|
        if (sx_I σ a7 (ti x2)) = 0 then
          qv (sx_R σ t 11) fun w10 =>
          bq w10 fun a11 =>
          ck x2 (sx_N σ a11) <|
          if 90 ≤ (sx_I σ a11 (ti x2)) then
            fl_X9_asks_2 n0 n σ t x1 (x2 + 1)
          else
            br (f_X9_adds σ t x2 12 0) fun u15 =>
            some (x2, u15)
        else
          fl_X9_asks_2 n0 n σ t x1 (x2 + 1)
      else
        fl_X9_asks_2 n0 n σ t x1 (x2 + 1)
def f_X9_asks (n0 : Nat) (σ : sx_T) (t : Nat) (x1 : Int32) : Option (Int32 × sx_T) :=
  fl_X9_asks_2 n0 n0 σ t x1 0
def fb_X9_runs_75 (n0 : Nat) (kl19 : sx_T → Nat → Int32 → Int32 → Option sx_T) (σ : sx_T) (t : Nat) (x2 : Int32) (x3 : Int32) (x4 : Int32) : Option sx_T :=
  if x4 = (-1) then
    kl19 σ t x2 x3
  else
    br (f_X9_goesOn n0 σ t x4) fun u3 =>
    kl19 u3 t x2 x3
def fb_X9_runs_35 (n0 : Nat) (kl19 : sx_T → Nat → Int32 → Int32 → Option sx_T) (σ : sx_T) (t : Nat) (x2 : Int32) (x3 : Int32) : Option sx_T :=
  if (sx_I σ t 43) ≤ x2 then
    qv (sx_R σ t 46) fun w2 =>
    bq w2 fun a3 =>
    ck x3 (sx_N σ a3) <|
    bd (f_X9_asks n0 σ t (sx_I σ a3 (ti x3))) fun r6 u7 =>
    fb_X9_runs_75 n0 kl19 u7 t x2 (x3 + 1) r6
  else
    qv (sx_R σ t 44) fun w9 =>
    bq w9 fun a10 =>
    ck x2 (sx_N σ a10) <|
    fb_X9_runs_75 n0 kl19 σ t (x2 + 1) x3 (sx_I σ a10 (ti x2))
def fl_X9_runs_19 (n0 : Nat) : Nat → sx_T → Nat → Int32 → Int32 → Option sx_T
  | 0 => fun _ _ _ _ => none
  | n + 1 => fun σ t x2 x3 =>
    if x2 < (sx_I σ t 43) then
      fb_X9_runs_35 n0 (fl_X9_runs_19 n0 n) σ t x2 x3
    else
      if (sx_I σ t 45) ≤ x3 then
        some σ
      else
        fb_X9_runs_35 n0 (fl_X9_runs_19 n0 n) σ t x2 x3
def f_X9_runs (n0 : Nat) (σ : sx_T) (t : Nat) (x1 : Int32) : Option sx_T :=
  br (f_X9_goesOn n0 (wx_I (wx_I σ t 43 0) t 45 0) t x1) fun u4 =>
  fl_X9_runs_19 n0 n0 u4 t 0 0
def fl_X9_unfit_4 (n0 : Nat) : Nat → sx_T → Nat → Int32 → Int32 → Int32 → Option (Int32 × sx_T)
  | 0 => fun _ _ _ _ _ => none
  | n + 1 => fun σ t x1 x2 x3 =>
    if (sx_I σ t 6) ≤ x3 then
      some (x2, σ)
    else
      qv (sx_R σ t 7) fun w2 =>
      bq w2 fun a3 =>
      ck x3 (sx_N σ a3) <|
      if (sx_I σ a3 (ti x3)) = x1 then
        qv (sx_R σ t 10) fun w6 =>
        bq w6 fun a7 =>
        ck x3 (sx_N σ a7) <|
        if (sx_I σ a7 (ti x3)) = 0 then
          bd (f_X9_isFit n0 σ t x3) fun r11 u12 =>
          if r11 = 0 then
            fl_X9_unfit_4 n0 n u12 t x1 (x2 + 1) (x3 + 1)
          else
            fl_X9_unfit_4 n0 n u12 t x1 (x2 + 0) (x3 + 1)
        else
          fl_X9_unfit_4 n0 n σ t x1 (x2 + 0) (x3 + 1)
      else
        fl_X9_unfit_4 n0 n σ t x1 (x2 + 0) (x3 + 1)
def f_X9_unfit (n0 : Nat) (σ : sx_T) (t : Nat) (x1 : Int32) : Option (Int32 × sx_T) :=
  fl_X9_unfit_4 n0 n0 σ t x1 0 0
def fl_X9_set_36 (n0 : Nat) : Nat → sx_T → Nat → Int32 → Int32 → Option (Int32 × sx_T)
  | 0 => fun _ _ _ _ => none
  | n + 1 => fun σ t x1 x6 =>
    if (sx_I σ t 6) ≤ x6 then
      bd (f_X9_unfit n0 σ t x1) fun r3 u4 =>
      some (r3, u4)
    else
      qv (sx_R σ t 7) fun w6 =>
      bq w6 fun a7 =>
      ck x6 (sx_N σ a7) <|
      if (sx_I σ a7 (ti x6)) = x1 then
        qv (sx_R σ t 10) fun w10 =>
        bq w10 fun a11 =>
        ck x6 (sx_N σ a11) <|
        if (sx_I σ a11 (ti x6)) = 0 then
          bd (f_X9_isFit n0 σ t x6) fun r15 u16 =>
          if r15 = 0 then
            fl_X9_set_36 n0 n u16 t x1 (x6 + 1)
          else
            br (f_X9_runs n0 u16 t x6) fun u20 =>
            fl_X9_set_36 n0 n u20 t x1 (x6 + 1)
        else
          fl_X9_set_36 n0 n σ t x1 (x6 + 1)
      else
        fl_X9_set_36 n0 n σ t x1 (x6 + 1)
def f_X9_set (n0 : Nat) (σ : sx_T) (t : Nat) (x1 : Int32) (x2 : Int32) (x3 : Int32) (x4 : Int32) (x5 : Int32) : Option (Int32 × sx_T) :=
  br (f_X9_isStep σ x1 x2) fun r2 =>
  br (f_X9_isOperation σ x3 x4 x5) fun r5 =>
  bd (f_X9_needs_ σ t r2 r5) fun r8 u9 =>
  if r8 = 0 then
    some (0, u9)
  else
    br (f_X9_lays u9 t x1 x2 x3 x4 x5) fun u13 =>
    fl_X9_set_36 n0 n0 u13 t x1 0
def f_X9_check (n0 : Nat) (σ : sx_T) (t : Nat) (x1 : Int32) (x2 : Int32) (x3 : Int32) (x4 : Int32) (x5 : Int32) : Option (Int32 × sx_T) :=
  br (f_X9_isStep σ x1 x2) fun r2 =>
  br (f_X9_isOperation σ x3 x4 x5) fun r5 =>
  bd (f_X9_needs_ σ t r2 r5) fun r8 u9 =>
  if r8 = 0 then
    some (0, u9)
  else
    qv (sx_R u9 t 3) fun w12 =>
    bq w12 fun a13 =>
    ck ((20 * x1) + x2) (sx_N u9 a13) <|
    qv (sx_R u9 t 4) fun w15 =>
    bq w15 fun a16 =>
    ck ((20 * x1) + x2) (sx_N u9 a16) <|
    qv (sx_R u9 t 5) fun w18 =>
    bq w18 fun a19 =>
    ck ((20 * x1) + x2) (sx_N u9 a19) <|
    br (f_X9_lays u9 t x1 x2 x3 x4 x5) fun u22 =>
    bd (f_X9_unfit n0 u22 t x1) fun r25 u26 =>
    br (f_X9_lays u26 t x1 x2 (sx_I u9 a13 (ti ((20 * x1) + x2))) (sx_I u9 a16 (ti ((20 * x1) + x2))) (sx_I u9 a19 (ti ((20 * x1) + x2)))) fun u29 =>
    some (r25, u29)
def fb_X9_needs___26 (σ : sx_T) (t : Nat) (y0 : Int32) : Option (Int32 × sx_T) :=
  if y0 = 0 then
    some (1, (wx_I σ t 0 y0))
  else
    some (0, (wx_I σ t 0 y0))
def f_X9_needs__ (σ : sx_T) (t : Nat) (x1 : Int32) (x2 : Int32) (x3 : Int32) : Option (Int32 × sx_T) :=
  if x1 = 0 then
    fb_X9_needs___26 σ t 1
  else
    if x2 = 0 then
      fb_X9_needs___26 σ t 2
    else
      if x3 = 0 then
        fb_X9_needs___26 σ t 3
      else
        fb_X9_needs___26 σ t 0
def fb_X9_start_31 (n0 : Nat) (σ : sx_T) (t : Nat) (x1 : Int32) (x2 : Int32) (y0 : Int32) (y1 : Int32) (y2 : Int32) : Option (Int32 × sx_T) :=
  bd (f_X9_needs__ σ t y2 y1 y0) fun r2 u3 =>
  if r2 = 0 then
    some (0, u3)
  else
    bd (f_X9_begets u3 t x1 x2 (-1) (-1)) fun r7 u8 =>
    br (f_X9_runs n0 u8 t r7) fun u11 =>
    some (r7, u11)
def f_X9_start (n0 : Nat) (σ : sx_T) (t : Nat) (x1 : Int32) (x2 : Int32) : Option (Int32 × sx_T) :=
  br (f_X9_in σ x1 0 5) fun r2 =>
  br (f_X9_in σ x2 (-999) 999) fun r5 =>
  if 40 ≤ (sx_I σ t 6) then
    fb_X9_start_31 n0 σ t x1 x2 0 r5 r2
  else
    fb_X9_start_31 n0 σ t x1 x2 1 r5 r2
def f_X9_isWorkflow (σ : sx_T) (t : Nat) (x1 : Int32) : Option Int32 :=
  br (f_X9_in σ x1 0 ((sx_I σ t 6) - 1)) fun r2 =>
  some r2
def f_X9_tells (n0 : Nat) (σ : sx_T) (t : Nat) (x1 : Int32) (x2 : Int32) (x3 : Int64) : Option (Int32 × sx_T) :=
  qv (sx_R σ t 10) fun w1 =>
  bq w1 fun a2 =>
  ck x1 (sx_N σ a2) <|
  if 0 < (sx_I σ a2 (ti x1)) then
    some (0, σ)
  else
    qv (sx_R σ t 11) fun w5 =>
    bq w5 fun a6 =>
    ck x1 (sx_N σ a6) <|
    if (sx_I σ a6 (ti x1)) < 90 then
      br (f_X9_adds σ t x1 x2 x3) fun u10 =>
      br (f_X9_runs n0 u10 t x1) fun u13 =>
      some (1, u13)
    else
      some (0, σ)
def fb_X9_signal_31 (n0 : Nat) (σ : sx_T) (t : Nat) (x1 : Int32) (x2 : Int32) (x3 : Int32) (y0 : Int32) (y1 : Int32) : Option (Int32 × sx_T) :=
  bd (f_X9_needs_ σ t y1 y0) fun r2 u3 =>
  if r2 = 0 then
    some (0, u3)
  else
    bd (f_X9_tells n0 u3 t x1 6 ((100 * x2.toInt64) + x3.toInt64)) fun r7 u8 =>
    if r7 = 0 then
      some (0, u8)
    else
      some (1, u8)
def fb_X9_signal_30 (n0 : Nat) (σ : sx_T) (t : Nat) (x1 : Int32) (x2 : Int32) (x3 : Int32) (y0 : Int32) : Option (Int32 × sx_T) :=
  fb_X9_signal_31 n0 σ t x1 x2 x3 0 y0
def f_X9_signal (n0 : Nat) (σ : sx_T) (t : Nat) (x1 : Int32) (x2 : Int32) (x3 : Int32) : Option (Int32 × sx_T) :=
  br (f_X9_isWorkflow σ t x1) fun r2 =>
  br (f_X9_in σ x2 0 99) fun r5 =>
  if r5 = 0 then
    fb_X9_signal_30 n0 σ t x1 x2 x3 r2
  else
    br (f_X9_in σ x3 0 99) fun r9 =>
    if r9 = 0 then
      fb_X9_signal_30 n0 σ t x1 x2 x3 r2
    else
      fb_X9_signal_31 n0 σ t x1 x2 x3 1 r2
def fb_X9_needs_10 (σ : sx_T) (x1 : Int32) (y0 : Int32) (t : Nat) : Option (Int32 × sx_T) :=
  some (x1, (wx_I σ t 0 y0))
def f_X9_needs (σ : sx_T) (t : Nat) (x1 : Int32) : Option (Int32 × sx_T) :=
  if x1 = 0 then
    fb_X9_needs_10 σ x1 1 t
  else
    fb_X9_needs_10 σ x1 0 t
def f_X9_cancel (n0 : Nat) (σ : sx_T) (t : Nat) (x1 : Int32) : Option (Int32 × sx_T) :=
  br (f_X9_isWorkflow σ t x1) fun r2 =>
  bd (f_X9_needs σ t r2) fun r5 u6 =>
  if r5 = 0 then
    some (0, u6)
  else
    bd (f_X9_tells n0 u6 t x1 12 0) fun r10 u11 =>
    if r10 = 0 then
      some (0, u11)
    else
      some (1, u11)
def fl_X9_copies_3 (n0 : Nat) : Nat → sx_T → Nat → Int32 → Int32 → Int32 → Int32 → Option sx_T
  | 0 => fun _ _ _ _ _ _ => none
  | n + 1 => fun σ t x1 x2 x3 x4 =>
    if x3 ≤ x4 then
      qv (sx_R σ t 11) fun w2 =>
      bq w2 fun a3 =>
      ck x2 (sx_N σ a3) <|
      some (wx_I σ a3 (ti x2) x3)
    else
      qv (sx_R σ t 14) fun w6 =>
      qv (sx_R σ t 14) fun w7 =>
      bq w7 fun a8 =>
      ck ((160 * x1) + x4) (sx_N σ a8) <|
      bq w6 fun a10 =>
      ck ((160 * x2) + x4) (sx_N σ a10) <|
      qv (sx_R σ t 15) fun w13 =>
      qv (sx_R σ t 15) fun w14 =>
      bq w14 fun a15 =>
      ck ((160 * x1) + x4) (sx_N σ a15) <|
      bq w13 fun a17 =>
      ck ((160 * x2) + x4) (sx_N σ a17) <|
      fl_X9_copies_3 n0 n (wx_J (wx_I σ a10 (ti ((160 * x2) + x4)) (sx_I σ a8 (ti ((160 * x1) + x4)))) a17 (ti ((160 * x2) + x4)) (sx_J σ a15 (ti ((160 * x1) + x4)))) t x1 x2 x3 (x4 + 1)
def f_X9_copies (n0 : Nat) (σ : sx_T) (t : Nat) (x1 : Int32) (x2 : Int32) (x3 : Int32) : Option sx_T :=
  fl_X9_copies_3 n0 n0 σ t x1 x2 x3 0
def f_X9_canReset (n0 : Nat) (σ : sx_T) (t : Nat) (x1 : Int32) (x2 : Int32) : Option (Int32 × sx_T) :=
  qv (sx_R σ t 10) fun w1 =>
  bq w1 fun a2 =>
  ck x1 (sx_N σ a2) <|
  if (sx_I σ a2 (ti x1)) = 0 then
    some (0, σ)
  else
    if (sx_I σ t 6) = 40 then
      some (0, σ)
    else
      qv (sx_R σ t 7) fun w6 =>
      qv (sx_R σ t 7) fun w7 =>
      bq w7 fun a8 =>
      ck x1 (sx_N σ a8) <|
      bq w6 fun a10 =>
      ck 40 (sx_N σ a10) <|
      qv (sx_R σ t 8) fun w13 =>
      bq w13 fun a14 =>
      ck 40 (sx_N σ a14) <|
      br (f_X9_copies n0 (wx_I (wx_I σ a10 (ti 40) (sx_I σ a8 (ti x1))) a14 (ti 40) (-1)) t x1 40 x2) fun u18 =>
      bd (f_X9_replays n0 u18 t 40 x2 0) fun r21 u22 =>
      if (sx_I u22 t 26) = 0 then
        some (0, u22)
      else
        if (sx_I u22 t 30) = 5 then
          some (0, u22)
        else
          some (1, u22)
def fl_X9_reset_117 (n0 : Nat) : Nat → sx_T → Nat → Int32 → Int32 → Int32 → Option (Int32 × sx_T)
  | 0 => fun _ _ _ _ _ => none
  | n + 1 => fun σ t x1 x5 x6 =>
    qv (sx_R σ t 11) fun w1 =>
    bq w1 fun a2 =>
    ck x1 (sx_N σ a2) <|
    if (sx_I σ a2 (ti x1)) ≤ x6 then
      some (x5, σ)
    else
      qv (sx_R σ t 14) fun w5 =>
      bq w5 fun a6 =>
      ck ((160 * x1) + x6) (sx_N σ a6) <|
      if (sx_I σ a6 (ti ((160 * x1) + x6))) = 6 then
        qv (sx_R σ t 15) fun w9 =>
        bq w9 fun a10 =>
        ck ((160 * x1) + x6) (sx_N σ a10) <|
        bd (f_X9_tells n0 σ t x5 6 (sx_J σ a10 (ti ((160 * x1) + x6)))) fun r13 u14 =>
        fl_X9_reset_117 n0 n u14 t x1 x5 (x6 + 1)
      else
        fl_X9_reset_117 n0 n σ t x1 x5 (x6 + 1)
def fb_X9_reset_69 (n0 : Nat) (σ : sx_T) (t : Nat) (x1 : Int32) (x2 : Int32) (y0 : Int32) (y1 : Int32) (y2 : Int32) : Option (Int32 × sx_T) :=
  bd (f_X9_needs__ σ t y2 y1 y0) fun r2 u3 =>
  if r2 = 0 then
    some (0, u3)
  else
    qv (sx_R u3 t 7) fun w6 =>
    bq w6 fun a7 =>
    ck x1 (sx_N u3 a7) <|
    bd (f_X9_begets u3 t (sx_I u3 a7 (ti x1)) 0 (-1) (-1)) fun r10 u11 =>
    br (f_X9_copies n0 u11 t x1 r10 x2) fun u14 =>
    qv (sx_R u14 t 12) fun w16 =>
    bq w16 fun a17 =>
    ck r10 (sx_N u14 a17) <|
    br (f_X9_runs n0 (wx_I u14 a17 (ti r10) x2) t r10) fun u21 =>
    fl_X9_reset_117 n0 n0 u21 t x1 r10 x2
def fb_X9_reset_68 (n0 : Nat) (σ : sx_T) (t : Nat) (x1 : Int32) (x2 : Int32) (y0 : Int32) (y1 : Int32) : Option (Int32 × sx_T) :=
  fb_X9_reset_69 n0 σ t x1 x2 0 y0 y1
def fb_X9_reset_55 (n0 : Nat) (σ : sx_T) (t : Nat) (x1 : Int32) (x2 : Int32) (y0 : Int32) (y1 : Int32) : Option (Int32 × sx_T) :=
  bd (f_X9_canReset n0 σ t x1 x2) fun r2 u3 =>
  if r2 = 0 then
    fb_X9_reset_68 n0 u3 t x1 x2 y0 y1
  else
    fb_X9_reset_69 n0 u3 t x1 x2 1 y0 y1
def fb_X9_reset_32 (n0 : Nat) (σ : sx_T) (t : Nat) (x1 : Int32) (x2 : Int32) (x3 : Int32) (y0 : Int32) (y1 : Int32) (y2 : Int32) (y3 : Int32) : Option (Int32 × sx_T) :=
  br (f_X9_in σ y3 y2 (y1 - y0)) fun r2 =>
  if r2 = 0 then
    fb_X9_reset_68 n0 σ t x1 x2 0 x3
  else
    fb_X9_reset_55 n0 σ t x1 x2 1 x3
def f_X9_reset (n0 : Nat) (σ : sx_T) (t : Nat) (x1 : Int32) (x2 : Int32) : Option (Int32 × sx_T) :=
  br (f_X9_isWorkflow σ t x1) fun r2 =>
  if r2 = 0 then
    fb_X9_reset_68 n0 σ t x1 x2 0 r2
  else
    qv (sx_R σ t 11) fun w5 =>
    bq w5 fun a6 =>
    ck x1 (sx_N σ a6) <|
    qv (sx_R σ t 10) fun w8 =>
    bq w8 fun a9 =>
    ck x1 (sx_N σ a9) <|
    if (sx_I σ a9 (ti x1)) ≤ 0 then
      fb_X9_reset_32 n0 σ t x1 x2 r2 0 (sx_I σ a6 (ti x1)) 1 x2
    else
      fb_X9_reset_32 n0 σ t x1 x2 r2 1 (sx_I σ a6 (ti x1)) 1 x2
def fl_X9_crash_9 (n0 : Nat) : Nat → sx_T → Nat → Int32 → Int32 → Option (Int32 × sx_T)
  | 0 => fun _ _ _ _ => none
  | n + 1 => fun σ t x1 x2 =>
    if (sx_I σ t 6) ≤ x2 then
      some (x1, σ)
    else
      qv (sx_R σ t 10) fun w2 =>
      bq w2 fun a3 =>
      ck x2 (sx_N σ a3) <|
      if (sx_I σ a3 (ti x2)) = 0 then
        fl_X9_crash_9 n0 n σ t (x1 + 1) (x2 + 1)
      else
        fl_X9_crash_9 n0 n σ t (x1 + 0) (x2 + 1)
def f_X9_crash (n0 : Nat) (σ : sx_T) (t : Nat) : Option (Int32 × sx_T) :=
  fl_X9_crash_9 n0 n0 (wx_I σ t 0 0) t 0 0
def fb_X9_poll_132 (n0 : Nat) (kl9 : sx_T → Nat → Int32 → Int32 → Option (Int32 × sx_T)) (σ : sx_T) (t : Nat) (x1 : Int32) (x2 : Int32) : Option (Int32 × sx_T) :=
  kl9 σ t x1 (x2 + 1)
def fb_X9_poll_128 (n0 : Nat) (kl9 : sx_T → Nat → Int32 → Int32 → Option (Int32 × sx_T)) (σ : sx_T) (t : Nat) (x2 : Int32) : Option (Int32 × sx_T) :=
  kl9 σ t x2 (x2 + 1)
def fb_X9_poll_71 (n0 : Nat) (kl9 : sx_T → Nat → Int32 → Int32 → Option (Int32 × sx_T)) (σ : sx_T) (t : Nat) (x1 : Int32) (x2 : Int32) (x3 : Int32) (y0 : Int32) : Option (Int32 × sx_T) :=
  if x1 = (-1) then
    fb_X9_poll_128 n0 kl9 σ t x2
  else
    qv (sx_R σ t 25) fun w2 =>
    bq w2 fun a3 =>
    ck x3 (sx_N σ a3) <|
    qv (sx_R σ t 25) fun w5 =>
    bq w5 fun a6 =>
    ck y0 (sx_N σ a6) <|
    if (sx_I σ a3 (ti x3)) < (sx_I σ a6 (ti y0)) then
      fb_X9_poll_128 n0 kl9 σ t x2
    else
      qv (sx_R σ t 25) fun w9 =>
      bq w9 fun a10 =>
      ck x3 (sx_N σ a10) <|
      qv (sx_R σ t 25) fun w12 =>
      bq w12 fun a13 =>
      ck y0 (sx_N σ a13) <|
      if (sx_I σ a10 (ti x3)) = (sx_I σ a13 (ti y0)) then
        if y0 ≤ x3 then
          fb_X9_poll_132 n0 kl9 σ t x1 x2
        else
          fb_X9_poll_128 n0 kl9 σ t x2
      else
        fb_X9_poll_132 n0 kl9 σ t x1 x2
def fl_X9_poll_9 (n0 : Nat) : Nat → sx_T → Nat → Int32 → Int32 → Option (Int32 × sx_T)
  | 0 => fun _ _ _ _ => none
  | n + 1 => fun σ t x1 x2 =>
    if (sx_I σ t 16) ≤ x2 then
      if x1 = (-1) then
        some ((-1), σ)
      else
        qv (sx_R σ t 25) fun w4 =>
        qv (sx_R σ t 7) fun w5 =>
        qv (sx_R σ t 17) fun w6 =>
        bq w6 fun a7 =>
        ck x1 (sx_N σ a7) <|
        bq w5 fun a9 =>
        ck (sx_I σ a7 (ti x1)) (sx_N σ a9) <|
        bq w4 fun a11 =>
        ck (sx_I σ a9 (ti (sx_I σ a7 (ti x1)))) (sx_N σ a11) <|
        qv (sx_R σ t 19) fun w15 =>
        bq w15 fun a16 =>
        ck x1 (sx_N σ a16) <|
        qv (sx_R σ t 21) fun w19 =>
        bq w19 fun a20 =>
        ck x1 (sx_N σ a20) <|
        qv (sx_R σ t 22) fun w23 =>
        bq w23 fun a24 =>
        ck x1 (sx_N σ a24) <|
        some ((sx_I σ t 23) + 1, (wx_I (wx_I (wx_I (wx_I (wx_I (wx_I σ t 24 ((sx_I σ t 24) + 1)) a11 (ti (sx_I σ a9 (ti (sx_I σ a7 (ti x1))))) ((sx_I σ t 24) + 1)) t 23 ((sx_I σ t 23) + 1)) a16 (ti x1) 1) a20 (ti x1) ((sx_I σ t 23) + 1)) a24 (ti x1) ((sx_I σ t 1) + 6)))
    else
      qv (sx_R σ t 19) fun w27 =>
      bq w27 fun a28 =>
      ck x2 (sx_N σ a28) <|
      if (sx_I σ a28 (ti x2)) = 0 then
        qv (sx_R σ t 17) fun w31 =>
        bq w31 fun a32 =>
        ck x2 (sx_N σ a32) <|
        bd (f_X9_isFit n0 σ t (sx_I σ a32 (ti x2))) fun r35 u36 =>
        if r35 = 0 then
          fl_X9_poll_9 n0 n u36 t x1 (x2 + 1)
        else
          qv (sx_R u36 t 7) fun w39 =>
          qv (sx_R u36 t 17) fun w40 =>
          bq w40 fun a41 =>
          ck x2 (sx_N u36 a41) <|
          bq w39 fun a43 =>
          ck (sx_I u36 a41 (ti x2)) (sx_N u36 a43) <|
          if x1 = (-1) then
            fb_X9_poll_71 n0 (fl_X9_poll_9 n0 n) u36 t x1 x2 (sx_I u36 a43 (ti (sx_I u36 a41 (ti x2)))) 0
          else
            qv (sx_R u36 t 7) fun w46 =>
            qv (sx_R u36 t 17) fun w47 =>
            bq w47 fun a48 =>
            ck x1 (sx_N u36 a48) <|
            bq w46 fun a50 =>
            ck (sx_I u36 a48 (ti x1)) (sx_N u36 a50) <|
            fb_X9_poll_71 n0 (fl_X9_poll_9 n0 n) u36 t x1 x2 (sx_I u36 a43 (ti (sx_I u36 a41 (ti x2)))) (sx_I u36 a50 (ti (sx_I u36 a48 (ti x1))))
      else
        fl_X9_poll_9 n0 n σ t x1 (x2 + 1)
def f_X9_poll (n0 : Nat) (σ : sx_T) (t : Nat) : Option (Int32 × sx_T) :=
  fl_X9_poll_9 n0 n0 (wx_I σ t 0 0) t (-1) 0
def fl_X9_taskOf_2 (n0 : Nat) : Nat → sx_T → Nat → Int32 → Int32 → Option (Int32 × sx_T)
  | 0 => fun _ _ _ _ => none
  | n + 1 => fun σ t x1 x2 =>
    if (sx_I σ t 16) ≤ x2 then
      some ((-1), σ)
    else
      qv (sx_R σ t 19) fun w2 =>
      bq w2 fun a3 =>
      ck x2 (sx_N σ a3) <|
      if (sx_I σ a3 (ti x2)) = 1 then
        qv (sx_R σ t 21) fun w6 =>
        bq w6 fun a7 =>
        ck x2 (sx_N σ a7) <|
        if (sx_I σ a7 (ti x2)) = x1 then
          qv (sx_R σ t 17) fun w10 =>
          bq w10 fun a11 =>
          ck x2 (sx_N σ a11) <|
          bd (f_X9_isFit n0 σ t (sx_I σ a11 (ti x2))) fun r14 u15 =>
          if r14 = 0 then
            some ((-1), u15)
          else
            some (x2, u15)
        else
          fl_X9_taskOf_2 n0 n σ t x1 (x2 + 1)
      else
        fl_X9_taskOf_2 n0 n σ t x1 (x2 + 1)
def f_X9_taskOf (n0 : Nat) (σ : sx_T) (t : Nat) (x1 : Int32) : Option (Int32 × sx_T) :=
  fl_X9_taskOf_2 n0 n0 σ t x1 0
def f_X9_gets (n0 : Nat) (σ : sx_T) (t : Nat) (x1 : Int32) (x2 : Int32) (x3 : Int64) : Option sx_T :=
  br (f_X9_closes σ t x1) fun u2 =>
  qv (sx_R u2 t 17) fun w4 =>
  bq w4 fun a5 =>
  ck x1 (sx_N u2 a5) <|
  br (f_X9_adds u2 t (sx_I u2 a5 (ti x1)) x2 x3) fun u8 =>
  qv (sx_R u8 t 17) fun w10 =>
  bq w10 fun a11 =>
  ck x1 (sx_N u8 a11) <|
  br (f_X9_runs n0 u8 t (sx_I u8 a11 (ti x1))) fun u14 =>
  some u14
def fb_X9_complete_38 (n0 : Nat) (σ : sx_T) (x3 : Int32) : Option (Int32 × sx_T) :=
  if x3 = (-1) then
    some (0, σ)
  else
    some (1, σ)
def f_X9_complete (n0 : Nat) (σ : sx_T) (t : Nat) (x1 : Int32) (x2 : Int32) : Option (Int32 × sx_T) :=
  br (f_X9_in σ x2 (-999) 999) fun r2 =>
  bd (f_X9_needs σ t r2) fun r5 u6 =>
  if r5 = 0 then
    some (0, u6)
  else
    bd (f_X9_taskOf n0 u6 t x1) fun r10 u11 =>
    if r10 = (-1) then
      fb_X9_complete_38 n0 u11 r10
    else
      br (f_X9_gets n0 u11 t r10 2 x2.toInt64) fun u15 =>
      fb_X9_complete_38 n0 u15 r10
def f_X9_failed (n0 : Nat) (σ : sx_T) (t : Nat) (x1 : Int32) : Option sx_T :=
  qv (sx_R σ t 20) fun w1 =>
  bq w1 fun a2 =>
  ck x1 (sx_N σ a2) <|
  ck x1 (sx_N σ a2) <|
  qv (sx_R σ t 20) fun w6 =>
  bq w6 fun a7 =>
  ck x1 (sx_N σ a7) <|
  if (sx_I (wx_I σ a2 (ti x1) ((sx_I σ a2 (ti x1)) + 1)) a7 (ti x1)) = 3 then
    br (f_X9_gets n0 (wx_I σ a2 (ti x1) ((sx_I σ a2 (ti x1)) + 1)) t x1 3 0) fun u11 =>
    some u11
  else
    qv (sx_R σ t 19) fun w13 =>
    bq w13 fun a14 =>
    ck x1 (sx_N σ a14) <|
    qv (sx_R σ t 22) fun w17 =>
    qv (sx_R σ t 20) fun w18 =>
    bq w18 fun a19 =>
    ck x1 (sx_N σ a19) <|
    bq w17 fun a21 =>
    ck x1 (sx_N σ a21) <|
    some (wx_I (wx_I (wx_I σ a2 (ti x1) ((sx_I σ a2 (ti x1)) + 1)) a14 (ti x1) 2) a21 (ti x1) ((sx_I σ t 1) + (1 <<< ((sx_I (wx_I (wx_I σ a2 (ti x1) ((sx_I σ a2 (ti x1)) + 1)) a14 (ti x1) 2) a19 (ti x1)) &&& 31))))
def fb_X9_fail_21 (n0 : Nat) (σ : sx_T) (x2 : Int32) : Option (Int32 × sx_T) :=
  if x2 = (-1) then
    some (0, σ)
  else
    some (1, σ)
def f_X9_fail (n0 : Nat) (σ : sx_T) (t : Nat) (x1 : Int32) : Option (Int32 × sx_T) :=
  bd (f_X9_taskOf n0 (wx_I σ t 0 0) t x1) fun r3 u4 =>
  if r3 = (-1) then
    fb_X9_fail_21 n0 u4 r3
  else
    br (f_X9_failed n0 u4 t r3) fun u8 =>
    fb_X9_fail_21 n0 u8 r3
def fb_X9_beat_29 (n0 : Nat) (σ : sx_T) (x2 : Int32) : Option (Int32 × sx_T) :=
  if x2 = (-1) then
    some (0, σ)
  else
    some (1, σ)
def f_X9_beat (n0 : Nat) (σ : sx_T) (t : Nat) (x1 : Int32) : Option (Int32 × sx_T) :=
  bd (f_X9_taskOf n0 (wx_I σ t 0 0) t x1) fun r3 u4 =>
  if r3 = (-1) then
    fb_X9_beat_29 n0 u4 r3
  else
    qv (sx_R u4 t 22) fun w7 =>
    bq w7 fun a8 =>
    ck r3 (sx_N u4 a8) <|
    fb_X9_beat_29 n0 (wx_I u4 a8 (ti r3) ((sx_I u4 t 1) + 6)) r3
def fb_X9_ticks_147 (n0 : Nat) (kl106 : sx_T → Nat → Int32 → Option sx_T) (σ : sx_T) (t : Nat) (x1 : Int32) : Option sx_T :=
  if (sx_I σ t 1) < (sx_I σ t 49) then
    kl106 σ t (x1 + 1)
  else
    br (f_X9_adds σ t x1 5 0) fun u3 =>
    br (f_X9_runs n0 u3 t x1) fun u6 =>
    kl106 u6 t (x1 + 1)
def fl_X9_ticks_106 (n0 : Nat) : Nat → sx_T → Nat → Int32 → Option sx_T
  | 0 => fun _ _ _ => none
  | n + 1 => fun σ t x1 =>
    if (sx_I σ t 6) ≤ x1 then
      some σ
    else
      qv (sx_R σ t 10) fun w2 =>
      bq w2 fun a3 =>
      ck x1 (sx_N σ a3) <|
      if (sx_I σ a3 (ti x1)) = 0 then
        bd (f_X9_isFit n0 σ t x1) fun r7 u8 =>
        if r7 = 0 then
          fl_X9_ticks_106 n0 n u8 t (x1 + 1)
        else
          if (sx_I u8 t 30) = 2 then
            fb_X9_ticks_147 n0 (fl_X9_ticks_106 n0 n) u8 t x1
          else
            if (sx_I u8 t 30) = 4 then
              fb_X9_ticks_147 n0 (fl_X9_ticks_106 n0 n) u8 t x1
            else
              fl_X9_ticks_106 n0 n u8 t (x1 + 1)
      else
        fl_X9_ticks_106 n0 n σ t (x1 + 1)
def fb_X9_ticks_40 (n0 : Nat) (kl12 : sx_T → Nat → Int32 → Option sx_T) (σ : sx_T) (t : Nat) (x1 : Int32) : Option sx_T :=
  qv (sx_R σ t 22) fun w1 =>
  bq w1 fun a2 =>
  ck x1 (sx_N σ a2) <|
  if (sx_I σ t 1) < (sx_I σ a2 (ti x1)) then
    kl12 σ t (x1 + 1)
  else
    qv (sx_R σ t 17) fun w5 =>
    bq w5 fun a6 =>
    ck x1 (sx_N σ a6) <|
    bd (f_X9_isFit n0 σ t (sx_I σ a6 (ti x1))) fun r9 u10 =>
    if r9 = 0 then
      kl12 u10 t (x1 + 1)
    else
      qv (sx_R u10 t 19) fun w13 =>
      bq w13 fun a14 =>
      ck x1 (sx_N u10 a14) <|
      if (sx_I u10 a14 (ti x1)) = 1 then
        br (f_X9_failed n0 u10 t x1) fun u18 =>
        kl12 u18 t (x1 + 1)
      else
        qv (sx_R u10 t 19) fun w20 =>
        bq w20 fun a21 =>
        ck x1 (sx_N u10 a21) <|
        qv (sx_R u10 t 22) fun w24 =>
        bq w24 fun a25 =>
        ck x1 (sx_N u10 a25) <|
        kl12 (wx_I (wx_I u10 a21 (ti x1) 0) a25 (ti x1) 0) t (x1 + 1)
def fl_X9_ticks_12 (n0 : Nat) : Nat → sx_T → Nat → Int32 → Option sx_T
  | 0 => fun _ _ _ => none
  | n + 1 => fun σ t x1 =>
    if (sx_I σ t 16) ≤ x1 then
      fl_X9_ticks_106 n0 n0 σ t 0
    else
      qv (sx_R σ t 19) fun w2 =>
      bq w2 fun a3 =>
      ck x1 (sx_N σ a3) <|
      if (sx_I σ a3 (ti x1)) = 1 then
        fb_X9_ticks_40 n0 (fl_X9_ticks_12 n0 n) σ t x1
      else
        qv (sx_R σ t 19) fun w6 =>
        bq w6 fun a7 =>
        ck x1 (sx_N σ a7) <|
        if (sx_I σ a7 (ti x1)) = 2 then
          fb_X9_ticks_40 n0 (fl_X9_ticks_12 n0 n) σ t x1
        else
          fl_X9_ticks_12 n0 n σ t (x1 + 1)
def f_X9_ticks (n0 : Nat) (σ : sx_T) (t : Nat) : Option sx_T :=
  fl_X9_ticks_12 n0 n0 (wx_I σ t 1 ((sx_I σ t 1) + 1)) t 0
def fl_X9_tick_18 (n0 : Nat) : Nat → sx_T → Nat → Int32 → Int32 → Option (Int32 × sx_T)
  | 0 => fun _ _ _ _ => none
  | n + 1 => fun σ t x1 x2 =>
    if x1 ≤ x2 then
      some (sx_I σ t 1, σ)
    else
      br (f_X9_ticks n0 σ t) fun u3 =>
      fl_X9_tick_18 n0 n u3 t x1 (x2 + 1)
def f_X9_tick (n0 : Nat) (σ : sx_T) (t : Nat) (x1 : Int32) : Option (Int32 × sx_T) :=
  br (f_X9_in σ x1 1 50) fun r2 =>
  bd (f_X9_needs σ t r2) fun r5 u6 =>
  if r5 = 0 then
    some (0, u6)
  else
    fl_X9_tick_18 n0 n0 u6 t x1 0
def f_X9_workflows (σ : sx_T) (t : Nat) : Option (Int32 × sx_T) :=
  some (sx_I σ t 6, (wx_I σ t 0 0))
def f_X9_state (n0 : Nat) (σ : sx_T) (t : Nat) (x1 : Int32) : Option (Int32 × sx_T) :=
  br (f_X9_isWorkflow σ t x1) fun r2 =>
  bd (f_X9_needs σ t r2) fun r5 u6 =>
  if r5 = 0 then
    some (0, u6)
  else
    qv (sx_R u6 t 10) fun w9 =>
    bq w9 fun a10 =>
    ck x1 (sx_N u6 a10) <|
    if (sx_I u6 a10 (ti x1)) ≤ 0 then
      bd (f_X9_isFit n0 u6 t x1) fun r14 u15 =>
      if r14 = 0 then
        some (5, u15)
      else
        some (0, u15)
    else
      qv (sx_R u6 t 10) fun w18 =>
      bq w18 fun a19 =>
      ck x1 (sx_N u6 a19) <|
      some (sx_I u6 a19 (ti x1), u6)
def fb_X9_told_41 (n0 : Nat) (σ : sx_T) (t : Nat) (x1 : Int32) (x2 : Int32) (y0 : Int32) (y1 : Int32) (y2 : Int32) : Option (Int32 × sx_T) :=
  bd (f_X9_needs__ σ t y2 y1 y0) fun r2 u3 =>
  if r2 = 0 then
    some (0, u3)
  else
    if x2 = 0 then
      qv (sx_R u3 t 7) fun w7 =>
      bq w7 fun a8 =>
      ck x1 (sx_N u3 a8) <|
      some (sx_I u3 a8 (ti x1), u3)
    else
    if x2 = 1 then
      some (sx_I u3 t 28, u3)
    else
    if x2 = 2 then
      some (sx_I u3 t 29, u3)
    else
    if x2 = 3 then
      some (sx_I u3 t 30, u3)
    else
    if x2 = 4 then
      if (sx_I u3 t 30) = 1 then
        qv (sx_R u3 t 13) fun w15 =>
        bq w15 fun a16 =>
        ck x1 (sx_N u3 a16) <|
        some (sx_I u3 a16 (ti x1), u3)
      else
        if (sx_I u3 t 30) = 6 then
          qv (sx_R u3 t 13) fun w19 =>
          bq w19 fun a20 =>
          ck x1 (sx_N u3 a20) <|
          some (sx_I u3 a20 (ti x1), u3)
        else
          if (sx_I u3 t 30) = 0 then
            some (0, u3)
          else
            some (sx_I u3 t 31, u3)
    else
    if x2 = 5 then
      some (sx_I u3 t 32, u3)
    else
    if x2 = 6 then
      if (sx_I u3 t 34) = 0 then
        some (0, u3)
      else
        some (1, u3)
    else
    if x2 = 7 then
      if (sx_I u3 t 37) ≤ 0 then
        some (sx_I u3 t 36, u3)
      else
        some (0, u3)
    else
    some (sx_I u3 t 39, u3)
def fb_X9_told_40 (n0 : Nat) (σ : sx_T) (t : Nat) (x1 : Int32) (x2 : Int32) (y0 : Int32) (y1 : Int32) : Option (Int32 × sx_T) :=
  fb_X9_told_41 n0 σ t x1 x2 0 y0 y1
def f_X9_told (n0 : Nat) (σ : sx_T) (t : Nat) (x1 : Int32) (x2 : Int32) : Option (Int32 × sx_T) :=
  br (f_X9_isWorkflow σ t x1) fun r2 =>
  br (f_X9_in σ x2 0 8) fun r5 =>
  if r2 = 0 then
    fb_X9_told_40 n0 σ t x1 x2 r5 r2
  else
    if r5 = 0 then
      fb_X9_told_40 n0 σ t x1 x2 r5 r2
    else
      bd (f_X9_isFit n0 σ t x1) fun r10 u11 =>
      if r10 = 0 then
        fb_X9_told_40 n0 u11 t x1 x2 r5 r2
      else
        fb_X9_told_41 n0 u11 t x1 x2 1 r5 r2
def f_X9_about (n0 : Nat) (σ : sx_T) (t : Nat) (x1 : Int32) (x2 : Int32) : Option (Int32 × sx_T) :=
  bd (f_X9_told n0 σ t x1 x2) fun r2 u3 =>
  some (r2, u3)
def f_X9_aboutAnew (n0 : Nat) (σ : sx_T) (t : Nat) (x1 : Int32) (x2 : Int32) : Option (Int32 × sx_T) :=
  bd (f_X9_told n0 σ t x1 x2) fun r2 u3 =>
  some (r2, u3)
def f_X9_parent (σ : sx_T) (t : Nat) (x1 : Int32) : Option (Int32 × sx_T) :=
  br (f_X9_isWorkflow σ t x1) fun r2 =>
  bd (f_X9_needs σ t r2) fun r5 u6 =>
  if r5 = 0 then
    some (0, u6)
  else
    qv (sx_R u6 t 8) fun w9 =>
    bq w9 fun a10 =>
    ck x1 (sx_N u6 a10) <|
    some (sx_I u6 a10 (ti x1), u6)
def f_X9_events (σ : sx_T) (t : Nat) (x1 : Int32) : Option (Int32 × sx_T) :=
  br (f_X9_isWorkflow σ t x1) fun r2 =>
  bd (f_X9_needs σ t r2) fun r5 u6 =>
  if r5 = 0 then
    some (0, u6)
  else
    qv (sx_R u6 t 11) fun w9 =>
    bq w9 fun a10 =>
    ck x1 (sx_N u6 a10) <|
    some (sx_I u6 a10 (ti x1), u6)
def f_X9_isEvent (σ : sx_T) (t : Nat) (x1 : Int32) (x2 : Int32) : Option Int32 :=
  br (f_X9_isWorkflow σ t x1) fun r2 =>
  if r2 = 0 then
    some 0
  else
    qv (sx_R σ t 11) fun w5 =>
    bq w5 fun a6 =>
    ck x1 (sx_N σ a6) <|
    br (f_X9_in σ x2 0 ((sx_I σ a6 (ti x1)) - 1)) fun r9 =>
    if r9 = 0 then
      some 0
    else
      some 1
def f_X9_kind (σ : sx_T) (t : Nat) (x1 : Int32) (x2 : Int32) : Option (Int32 × sx_T) :=
  br (f_X9_isEvent σ t x1 x2) fun r2 =>
  bd (f_X9_needs σ t r2) fun r5 u6 =>
  if r5 = 0 then
    some (0, u6)
  else
    qv (sx_R u6 t 14) fun w9 =>
    bq w9 fun a10 =>
    ck ((160 * x1) + x2) (sx_N u6 a10) <|
    some (sx_I u6 a10 (ti ((160 * x1) + x2)), u6)
def f_X9_number (σ : sx_T) (t : Nat) (x1 : Int32) (x2 : Int32) : Option (Int64 × sx_T) :=
  br (f_X9_isEvent σ t x1 x2) fun r2 =>
  bd (f_X9_needs σ t r2) fun r5 u6 =>
  if r5 = 0 then
    some (0, u6)
  else
    qv (sx_R u6 t 15) fun w9 =>
    bq w9 fun a10 =>
    ck ((160 * x1) + x2) (sx_N u6 a10) <|
    some (sx_J u6 a10 (ti ((160 * x1) + x2)), u6)
def f_X9_tasks (σ : sx_T) (t : Nat) : Option (Int32 × sx_T) :=
  some (sx_I σ t 16, (wx_I σ t 0 0))
def f_X9_task (σ : sx_T) (t : Nat) (x1 : Int32) (x2 : Int32) : Option (Int32 × sx_T) :=
  br (f_X9_in σ x1 0 ((sx_I σ t 16) - 1)) fun r2 =>
  br (f_X9_in σ x2 0 5) fun r5 =>
  bd (f_X9_needs_ σ t r2 r5) fun r8 u9 =>
  if r8 = 0 then
    some (0, u9)
  else
    if x2 = 0 then
      qv (sx_R u9 t 17) fun w13 =>
      bq w13 fun a14 =>
      ck x1 (sx_N u9 a14) <|
      some (sx_I u9 a14 (ti x1), u9)
    else
      if x2 = 1 then
        qv (sx_R u9 t 18) fun w17 =>
        bq w17 fun a18 =>
        ck x1 (sx_N u9 a18) <|
        some (sx_I u9 a18 (ti x1), u9)
      else
        if x2 = 2 then
          qv (sx_R u9 t 19) fun w21 =>
          bq w21 fun a22 =>
          ck x1 (sx_N u9 a22) <|
          some (sx_I u9 a22 (ti x1), u9)
        else
          if x2 = 3 then
            qv (sx_R u9 t 20) fun w25 =>
            bq w25 fun a26 =>
            ck x1 (sx_N u9 a26) <|
            some (sx_I u9 a26 (ti x1), u9)
          else
            if x2 = 4 then
              qv (sx_R u9 t 21) fun w29 =>
              bq w29 fun a30 =>
              ck x1 (sx_N u9 a30) <|
              some (sx_I u9 a30 (ti x1), u9)
            else
              qv (sx_R u9 t 22) fun w32 =>
              bq w32 fun a33 =>
              ck x1 (sx_N u9 a33) <|
              some (sx_I u9 a33 (ti x1), u9)
def f_X9_now (σ : sx_T) (t : Nat) : Option (Int32 × sx_T) :=
  some (sx_I σ t 1, (wx_I σ t 0 0))
