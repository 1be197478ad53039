noncomputable def f_X0_init (a0 : Nat) (h : zHp) : Option zHp :=
  znm h.1 fun q1 => znm (zadd h (.inl (0, 1168, fun _ => 0))) fun h2 =>
  (zpV h2 a0 0 0 (.ref q1)).bind fun h3 =>
  some h3
noncomputable def f_X0_clear_30 (a0 : Nat) (h : zHp) : Option zHp :=
  (zpV h a0 0 1 (.int 0)).bind fun h1 =>
  (zpV h1 a0 0 2 (.int 0)).bind fun h2 =>
  (zpV h2 a0 0 3 (.int 0)).bind fun h3 =>
  some h3
noncomputable def f_X0_clear_2_body (r2 : Nat → Int32 → zHp → Option (zHp)) (a0 : Nat) (a1 : Int32) (h : zHp) : Option zHp :=
  (zgI h a0 0 2).bind fun v1 =>
  if v1 ≤ a1 then
    f_X0_clear_30 a0 h
  else
    if 1168 ≤ a1 then
      f_X0_clear_30 a0 h
    else
      (zgR h a0 0 0).bind fun v2 =>
      (zst h v2 0 a1 0).bind fun h3 =>
      r2 a0 (a1 + 1) h3
noncomputable def f_X0_clear_2 : Nat → Nat → Int32 → zHp → Option (zHp)
  | 0 => fun _ _ _ => none
  | n + 1 => fun a0 a1 h => f_X0_clear_2_body (f_X0_clear_2 n) a0 a1 h
noncomputable def f_X0_clear (a0 : Nat) (h : zHp) : Option zHp :=
  f_X0_clear_2 zN a0 0 h
noncomputable def f_X0_mark_26 (a0 : Nat) (a1 : Int32) (a2 : Int32) (h : zHp) : Option zHp :=
  (zgR h a0 0 0).bind fun v1 =>
  (zst h v1 0 a1 a2).bind fun h2 =>
  (zgI h2 a0 0 1).bind fun v3 =>
  (zpV h2 a0 0 1 (.int (v3 + 1))).bind fun h4 =>
  (zgI h4 a0 0 2).bind fun v5 =>
  if a1 < v5 then
    some h4
  else
    (zpV h4 a0 0 2 (.int (a1 + 1))).bind fun h6 =>
    some h6
noncomputable def f_X0_mark (a0 : Nat) (a1 : Int32) (a2 : Int32) (h : zHp) : Option zHp :=
  if a1 < 0 then
    some h
  else
    if a1 < 1168 then
      (zgR h a0 0 0).bind fun v1 =>
      (zld h v1 0 a1).bind fun v2 =>
      if v2 = 0 then
        f_X0_mark_26 a0 a1 a2 h
      else
        (zpV h a0 0 3 (.int 1)).bind fun h3 =>
        f_X0_mark_26 a0 a1 a2 h3
    else
      some h
noncomputable def f_X0_addSailing_5_body (r5 : Nat → Nat → Int32 → zHp → Option (zHp)) (a0 : Nat) (a1 : Nat) (a2 : Int32) (h : zHp) : Option zHp :=
  (zgI h a1 4 3).bind fun v1 =>
  if v1 ≤ a2 then
    some h
  else
    (zgI h a1 4 1).bind fun v2 =>
    (zif (zis h a0 0) (f_X0_mark a0 a2 (v2 + 1) h)).bind fun h3 =>
    r5 a0 a1 (a2 + 1) h3
noncomputable def f_X0_addSailing_5 : Nat → Nat → Nat → Int32 → zHp → Option (zHp)
  | 0 => fun _ _ _ _ => none
  | n + 1 => fun a0 a1 a2 h => f_X0_addSailing_5_body (f_X0_addSailing_5 n) a0 a1 a2 h
noncomputable def f_X0_addSailing (a0 : Nat) (a1 : Nat) (h : zHp) : Option zHp :=
  (zgI h a1 4 2).bind fun v1 =>
  f_X0_addSailing_5 zN a0 a1 v1 h
noncomputable def f_X0_addHandover (a0 : Nat) (a1 : Nat) (h : zHp) : Option zHp :=
  (zgI h a1 4 2).bind fun v1 =>
  if (v1 - 1) < 0 then
    some h
  else
    if 1168 ≤ (v1 - 1) then
      some h
    else
      (zgR h a0 0 0).bind fun v2 =>
      (zld h v2 0 (v1 - 1)).bind fun v3 =>
      (zgI h a1 4 1).bind fun v4 =>
      if v3 = (v4 + 1) then
        some h
      else
        (zif (zis h a0 0) (f_X0_mark a0 (v1 - 1) 7 h)).bind fun h5 =>
        some h5
noncomputable def f_X0_beginOf_34 (a1 : Nat) (a2 : Int32) (s0 : Int32) (h : zHp) : Option (Int32 × zHp) :=
  if s0 = 0 then
    (zgI h a1 4 2).bind fun v1 =>
    some (v1, h)
  else
    some (a2, h)
noncomputable def f_X0_beginOf_33 (a1 : Nat) (a2 : Int32) (h : zHp) : Option (Int32 × zHp) :=
  f_X0_beginOf_34 a1 a2 0 h
noncomputable def f_X0_beginOf (a0 : Nat) (a1 : Nat) (h : zHp) : Option (Int32 × zHp) :=
  (zgI h a1 4 2).bind fun v1 =>
  if (v1 - 1) < 0 then
    f_X0_beginOf_33 a1 (v1 - 1) h
  else
    if 1168 ≤ (v1 - 1) then
      f_X0_beginOf_33 a1 (v1 - 1) h
    else
      (zgR h a0 0 0).bind fun v2 =>
      (zld h v2 0 (v1 - 1)).bind fun v3 =>
      if v3 = 7 then
        f_X0_beginOf_34 a1 (v1 - 1) 1 h
      else
        f_X0_beginOf_33 a1 (v1 - 1) h
noncomputable def f_X0_restAt_20 (h : zHp) : Option (Int32 × zHp) :=
  some (1, h)
noncomputable def f_X0_restAt (a0 : Nat) (a1 : Int32) (h : zHp) : Option (Int32 × zHp) :=
  if a1 < 0 then
    f_X0_restAt_20 h
  else
    if 1168 ≤ a1 then
      f_X0_restAt_20 h
    else
      (zgR h a0 0 0).bind fun v1 =>
      (zld h v1 0 a1).bind fun v2 =>
      if v2 = 0 then
        f_X0_restAt_20 h
      else
        some (0, h)
noncomputable def f_X0_restIn_39 (r5 : Nat → Int32 → Int32 → Int32 → Int32 → zHp → Option (Int32 × zHp)) (a0 : Nat) (a1 : Int32) (a2 : Int32) (a3 : Int32) (a4 : Int32) (h : zHp) : Option (Int32 × zHp) :=
  r5 a0 a1 a2 a3 (a4 + 1) h
noncomputable def f_X0_restIn_5_body (r5 : Nat → Int32 → Int32 → Int32 → Int32 → zHp → Option (Int32 × zHp)) (a0 : Nat) (a1 : Int32) (a2 : Int32) (a3 : Int32) (a4 : Int32) (h : zHp) : Option (Int32 × zHp) :=
  if (a1 + a2) ≤ a4 then
    some (a3, h)
  else
    if a4 < 0 then
      f_X0_restIn_39 r5 a0 a1 a2 a3 a4 h
    else
      if 1168 ≤ a4 then
        f_X0_restIn_39 r5 a0 a1 a2 a3 a4 h
      else
        (zgR h a0 0 0).bind fun v1 =>
        (zld h v1 0 a4).bind fun v2 =>
        if v2 = 0 then
          f_X0_restIn_39 r5 a0 a1 a2 a3 a4 h
        else
          f_X0_restIn_39 r5 a0 a1 a2 (a3 + (-1)) a4 h
noncomputable def f_X0_restIn_5 : Nat → Nat → Int32 → Int32 → Int32 → Int32 → zHp → Option (Int32 × zHp)
  | 0 => fun _ _ _ _ _ _ => none
  | n + 1 => fun a0 a1 a2 a3 a4 h => f_X0_restIn_5_body (f_X0_restIn_5 n) a0 a1 a2 a3 a4 h
noncomputable def f_X0_restIn (a0 : Nat) (a1 : Int32) (a2 : Int32) (h : zHp) : Option (Int32 × zHp) :=
  f_X0_restIn_5 zN a0 a1 a2 a2 a1 h
noncomputable def f_X0_everyRowHas_11_body (r11 : Nat → Int32 → Int32 → Int32 → Int32 → Int32 → zHp → Option (Int32 × zHp)) (a0 : Nat) (a1 : Int32) (a2 : Int32) (a4 : Int32) (a5 : Int32) (a6 : Int32) (h : zHp) : Option (Int32 × zHp) :=
  if a4 ≤ a6 then
    zbool 1 h
  else
    if a1 ≤ a5 then
      zb2 (zif (zis h a0 0) (f_X0_restAt a0 (a6 + a2) h)) fun v1 h2 =>
      zb2 (zif (zis h2 a0 0) (f_X0_restAt a0 a6 h2)) fun v3 h4 =>
      r11 a0 a1 a2 a4 (a5 + (v1 - v3)) (a6 + 1) h4
    else
      zbool 0 h
noncomputable def f_X0_everyRowHas_11 : Nat → Nat → Int32 → Int32 → Int32 → Int32 → Int32 → zHp → Option (Int32 × zHp)
  | 0 => fun _ _ _ _ _ _ _ => none
  | n + 1 => fun a0 a1 a2 a4 a5 a6 h => f_X0_everyRowHas_11_body (f_X0_everyRowHas_11 n) a0 a1 a2 a4 a5 a6 h
noncomputable def f_X0_everyRowHas (a0 : Nat) (a1 : Int32) (a2 : Int32) (a3 : Int32) (a4 : Int32) (h : zHp) : Option (Int32 × zHp) :=
  zb2 (zif (zis h a0 0) (f_X0_restIn a0 a3 a2 h)) fun v1 h2 =>
  f_X0_everyRowHas_11 zN a0 a1 a2 a4 v1 a3 h2
noncomputable def f_X0_everyDayHasLongRest_78 (r9 : Nat → Int32 → Int32 → Int32 → Int32 → Int32 → Int32 → zHp → Option (Int32 × zHp)) (a0 : Nat) (a1 : Int32) (a2 : Int32) (a3 : Int32) (a4 : Int32) (a5 : Int32) (a6 : Int32) (h : zHp) : Option (Int32 × zHp) :=
  r9 a0 a1 a2 a3 a4 a5 (a6 + 1) h
noncomputable def f_X0_everyDayHasLongRest_54 (r9 : Nat → Int32 → Int32 → Int32 → Int32 → Int32 → Int32 → zHp → Option (Int32 × zHp)) (a0 : Nat) (a1 : Int32) (a2 : Int32) (a3 : Int32) (a4 : Int32) (a5 : Int32) (a6 : Int32) (h : zHp) : Option (Int32 × zHp) :=
  if ((a6 - 24) + 1) < a2 then
    f_X0_everyDayHasLongRest_78 r9 a0 a1 a2 a3 a4 a5 a6 h
  else
    if ((a6 - 24) + 1) ≤ a5 then
      f_X0_everyDayHasLongRest_78 r9 a0 a1 a2 a3 a4 a5 a6 h
    else
      zbool 0 h
noncomputable def f_X0_everyDayHasLongRest_38 (r9 : Nat → Int32 → Int32 → Int32 → Int32 → Int32 → Int32 → zHp → Option (Int32 × zHp)) (a0 : Nat) (a1 : Int32) (a2 : Int32) (a3 : Int32) (a5 : Int32) (a6 : Int32) (s0 : Int32) (h : zHp) : Option (Int32 × zHp) :=
  if s0 < a1 then
    f_X0_everyDayHasLongRest_54 r9 a0 a1 a2 a3 s0 a5 a6 h
  else
    f_X0_everyDayHasLongRest_54 r9 a0 a1 a2 a3 s0 ((a6 - a1) + 1) a6 h
noncomputable def f_X0_everyDayHasLongRest_9_body (r9 : Nat → Int32 → Int32 → Int32 → Int32 → Int32 → Int32 → zHp → Option (Int32 × zHp)) (a0 : Nat) (a1 : Int32) (a2 : Int32) (a3 : Int32) (a4 : Int32) (a5 : Int32) (a6 : Int32) (h : zHp) : Option (Int32 × zHp) :=
  if ((a3 + 24) - 1) ≤ a6 then
    zbool 1 h
  else
    zb2 (zif (zis h a0 0) (f_X0_restAt a0 a6 h)) fun v1 h2 =>
    if v1 = 1 then
      f_X0_everyDayHasLongRest_38 r9 a0 a1 a2 a3 a5 a6 (a4 + 1) h2
    else
      f_X0_everyDayHasLongRest_38 r9 a0 a1 a2 a3 a5 a6 0 h2
noncomputable def f_X0_everyDayHasLongRest_9 : Nat → Nat → Int32 → Int32 → Int32 → Int32 → Int32 → Int32 → zHp → Option (Int32 × zHp)
  | 0 => fun _ _ _ _ _ _ _ _ => none
  | n + 1 => fun a0 a1 a2 a3 a4 a5 a6 h => f_X0_everyDayHasLongRest_9_body (f_X0_everyDayHasLongRest_9 n) a0 a1 a2 a3 a4 a5 a6 h
noncomputable def f_X0_everyDayHasLongRest (a0 : Nat) (a1 : Int32) (a2 : Int32) (a3 : Int32) (h : zHp) : Option (Int32 × zHp) :=
  f_X0_everyDayHasLongRest_9 zN a0 a1 a2 a3 0 (-1) a2 h
noncomputable def f_X0_leastLongRest_3_body (r3 : Nat → Int32 → zHp → Option (Int32 × zHp)) (a0 : Nat) (a1 : Int32) (h : zHp) : Option (Int32 × zHp) :=
  if a1 ≤ 0 then
    some (a1, h)
  else
    (zgI h a0 0 2).bind fun v1 =>
    zb2 (zif (zis h a0 0) (f_X0_everyDayHasLongRest a0 a1 0 v1 h)) fun v2 h3 =>
    if v2 = 0 then
      r3 a0 (a1 + (-1)) h3
    else
      some (a1, h3)
noncomputable def f_X0_leastLongRest_3 : Nat → Nat → Int32 → zHp → Option (Int32 × zHp)
  | 0 => fun _ _ _ => none
  | n + 1 => fun a0 a1 h => f_X0_leastLongRest_3_body (f_X0_leastLongRest_3 n) a0 a1 h
noncomputable def f_X0_leastLongRest (a0 : Nat) (h : zHp) : Option (Int32 × zHp) :=
  f_X0_leastLongRest_3 zN a0 24 h
noncomputable def f_X0_firstHourOfLeastRest_34 (r15 : Nat → Int32 → Int32 → Int32 → Int32 → zHp → Option (Int32 × zHp)) (a0 : Nat) (a1 : Int32) (a2 : Int32) (a3 : Int32) (a4 : Int32) (h : zHp) : Option (Int32 × zHp) :=
  zb2 (zif (zis h a0 0) (f_X0_restAt a0 (a4 + 24) h)) fun v1 h2 =>
  zb2 (zif (zis h2 a0 0) (f_X0_restAt a0 a4 h2)) fun v3 h4 =>
  r15 a0 (a1 + (v1 - v3)) a2 a3 (a4 + 1) h4
noncomputable def f_X0_firstHourOfLeastRest_15_body (r15 : Nat → Int32 → Int32 → Int32 → Int32 → zHp → Option (Int32 × zHp)) (a0 : Nat) (a1 : Int32) (a2 : Int32) (a3 : Int32) (a4 : Int32) (h : zHp) : Option (Int32 × zHp) :=
  (zgI h a0 0 2).bind fun v1 =>
  if v1 ≤ a4 then
    some (a3, h)
  else
    if a2 ≤ a1 then
      f_X0_firstHourOfLeastRest_34 r15 a0 a1 a2 a3 a4 h
    else
      f_X0_firstHourOfLeastRest_34 r15 a0 a1 a1 a4 a4 h
noncomputable def f_X0_firstHourOfLeastRest_15 : Nat → Nat → Int32 → Int32 → Int32 → Int32 → zHp → Option (Int32 × zHp)
  | 0 => fun _ _ _ _ _ _ => none
  | n + 1 => fun a0 a1 a2 a3 a4 h => f_X0_firstHourOfLeastRest_15_body (f_X0_firstHourOfLeastRest_15 n) a0 a1 a2 a3 a4 h
noncomputable def f_X0_firstHourOfLeastRest (a0 : Nat) (h : zHp) : Option (Int32 × zHp) :=
  zb2 (zif (zis h a0 0) (f_X0_restIn a0 0 24 h)) fun v1 h2 =>
  f_X0_firstHourOfLeastRest_15 zN a0 v1 v1 0 0 h2
noncomputable def f_X4_unseatAll_2_body (r2 : Nat → Int32 → zHp → Option (zHp)) (a0 : Nat) (a1 : Int32) (h : zHp) : Option zHp :=
  if 12 ≤ a1 then
    some h
  else
    (zgR h a0 4 8).bind fun v1 =>
    (zst h v1 0 a1 (-1)).bind fun h2 =>
    r2 a0 (a1 + 1) h2
noncomputable def f_X4_unseatAll_2 : Nat → Nat → Int32 → zHp → Option (zHp)
  | 0 => fun _ _ _ => none
  | n + 1 => fun a0 a1 h => f_X4_unseatAll_2_body (f_X4_unseatAll_2 n) a0 a1 h
noncomputable def f_X4_unseatAll (a0 : Nat) (h : zHp) : Option zHp :=
  f_X4_unseatAll_2 zN a0 0 h
noncomputable def f_X4_init (a0 : Nat) (h : zHp) : Option zHp :=
  (zpV h a0 4 5 (.int 3)).bind fun h1 =>
  (zpV h1 a0 4 6 (.int (-1))).bind fun h2 =>
  znm h2.1 fun q3 => znm (zadd h2 (.inl (0, 4, fun _ => 0))) fun h4 =>
  (zpV h4 a0 4 7 (.ref q3)).bind fun h5 =>
  znm h5.1 fun q6 => znm (zadd h5 (.inl (0, 12, fun _ => 0))) fun h7 =>
  (zpV h7 a0 4 8 (.ref q6)).bind fun h8 =>
  (zif (zis h8 a0 4) (f_X4_unseatAll a0 h8)).bind fun h9 =>
  some h9
noncomputable def f_X3_init (a0 : Nat) (h : zHp) : Option zHp :=
  znm h.1 fun q1 => znm (zadd h (.inl (0, 4, fun _ => 0))) fun h2 =>
  (zpV h2 a0 3 0 (.ref q1)).bind fun h3 =>
  some h3
noncomputable def f_X2_init (a0 : Nat) (h : zHp) : Option zHp :=
  znm h.1 fun q1 => znm (zadd h (.inl (0, 12, fun _ => 0))) fun h2 =>
  (zpV h2 a0 2 0 (.ref q1)).bind fun h3 =>
  some h3
noncomputable def f_X5_init_137_body (r137 : Nat → Int32 → zHp → Option (zHp)) (a0 : Nat) (a2 : Int32) (h : zHp) : Option zHp :=
  if 4 ≤ a2 then
    some h
  else
    (zgR h a0 5 7).bind fun v1 =>
    znm h.1 fun q2 => znm (zadd h (.inr (.inr (2, [.null, .int 0])))) fun h3 =>
    (f_X2_init q2 h3).bind fun h4 =>
    (zstR h4 v1 4 2 a2 q2).bind fun h5 =>
    r137 a0 (a2 + 1) h5
noncomputable def f_X5_init_137 : Nat → Nat → Int32 → zHp → Option (zHp)
  | 0 => fun _ _ _ => none
  | n + 1 => fun a0 a2 h => f_X5_init_137_body (f_X5_init_137 n) a0 a2 h
noncomputable def f_X5_init_110_body (r110 : Nat → Int32 → zHp → Option (zHp)) (a0 : Nat) (a2 : Int32) (h : zHp) : Option zHp :=
  if 12 ≤ a2 then
    f_X5_init_137 zN a0 0 h
  else
    (zgR h a0 5 6).bind fun v1 =>
    znm h.1 fun q2 => znm (zadd h (.inr (.inr (3, [.null, .int 0, .int 0])))) fun h3 =>
    (f_X3_init q2 h3).bind fun h4 =>
    (zstR h4 v1 3 3 a2 q2).bind fun h5 =>
    r110 a0 (a2 + 1) h5
noncomputable def f_X5_init_110 : Nat → Nat → Int32 → zHp → Option (zHp)
  | 0 => fun _ _ _ => none
  | n + 1 => fun a0 a2 h => f_X5_init_110_body (f_X5_init_110 n) a0 a2 h
noncomputable def f_X5_init_83_body (r83 : Nat → Int32 → zHp → Option (zHp)) (a0 : Nat) (a2 : Int32) (h : zHp) : Option zHp :=
  if 48 ≤ a2 then
    f_X5_init_110 zN a0 0 h
  else
    (zgR h a0 5 5).bind fun v1 =>
    znm h.1 fun q2 => znm (zadd h (.inr (.inr (4, [.int 0, .int 0, .int 0, .int 0, .int 0, .int 0, .int 0, .null, .null])))) fun h3 =>
    (f_X4_init q2 h3).bind fun h4 =>
    (zstR h4 v1 2 4 a2 q2).bind fun h5 =>
    r83 a0 (a2 + 1) h5
noncomputable def f_X5_init_83 : Nat → Nat → Int32 → zHp → Option (zHp)
  | 0 => fun _ _ _ => none
  | n + 1 => fun a0 a2 h => f_X5_init_83_body (f_X5_init_83 n) a0 a2 h
noncomputable def f_X5_init_59_body (r59 : Nat → Int32 → zHp → Option (zHp)) (a0 : Nat) (a2 : Int32) (h : zHp) : Option zHp :=
  if 5 ≤ a2 then
    f_X5_init_83 zN a0 0 h
  else
    (zgR h a0 5 1).bind fun v1 =>
    (ztab 5 zT1 a2).bind fun v2 =>
    (zst h v1 0 a2 v2).bind fun h3 =>
    r59 a0 (a2 + 1) h3
noncomputable def f_X5_init_59 : Nat → Nat → Int32 → zHp → Option (zHp)
  | 0 => fun _ _ _ => none
  | n + 1 => fun a0 a2 h => f_X5_init_59_body (f_X5_init_59 n) a0 a2 h
noncomputable def f_X5_init (a0 : Nat) (a1 : Nat) (h : zHp) : Option zHp :=
  znm h.1 fun q1 => znm (zadd h (.inl (0, 5, fun _ => 0))) fun h2 =>
  (zpV h2 a0 5 1 (.ref q1)).bind fun h3 =>
  znm h3.1 fun q4 => znm (zadd h3 (.inr (.inl (2, 48, fun _ => none)))) fun h5 =>
  (zpV h5 a0 5 5 (.ref q4)).bind fun h6 =>
  znm h6.1 fun q7 => znm (zadd h6 (.inr (.inl (3, 12, fun _ => none)))) fun h8 =>
  (zpV h8 a0 5 6 (.ref q7)).bind fun h9 =>
  znm h9.1 fun q10 => znm (zadd h9 (.inr (.inl (4, 4, fun _ => none)))) fun h11 =>
  (zpV h11 a0 5 7 (.ref q10)).bind fun h12 =>
  (zpV h12 a0 5 0 (.ref a1)).bind fun h13 =>
  (zpV h13 a0 5 2 (.int 0)).bind fun h14 =>
  (zpV h14 a0 5 3 (.int 0)).bind fun h15 =>
  (zpV h15 a0 5 4 (.int 0)).bind fun h16 =>
  f_X5_init_59 zN a0 0 h16
noncomputable def f_X1_init_14_body (r14 : Nat → Nat → Int32 → zHp → Option (zHp)) (a0 : Nat) (a1 : Nat) (a2 : Int32) (h : zHp) : Option zHp :=
  if 4 ≤ a2 then
    (zpV h a0 1 1 (.int 0)).bind fun h1 =>
    some h1
  else
    (zgR h a0 1 0).bind fun v2 =>
    znm h.1 fun q3 => znm (zadd h (.inr (.inr (5, [.null, .null, .int 0, .int 0, .int 0, .null, .null, .null])))) fun h4 =>
    (f_X5_init q3 a1 h4).bind fun h5 =>
    (zstR h5 v2 5 5 a2 q3).bind fun h6 =>
    r14 a0 a1 (a2 + 1) h6
noncomputable def f_X1_init_14 : Nat → Nat → Nat → Int32 → zHp → Option (zHp)
  | 0 => fun _ _ _ _ => none
  | n + 1 => fun a0 a1 a2 h => f_X1_init_14_body (f_X1_init_14 n) a0 a1 a2 h
noncomputable def f_X1_init (a0 : Nat) (a1 : Nat) (h : zHp) : Option zHp :=
  znm h.1 fun q1 => znm (zadd h (.inr (.inl (5, 4, fun _ => none)))) fun h2 =>
  (zpV h2 a0 1 0 (.ref q1)).bind fun h3 =>
  f_X1_init_14 zN a0 a1 0 h3
noncomputable def f_X1_dropOldest_9_body (r9 : Nat → Nat → Int32 → zHp → Option (zHp)) (a0 : Nat) (a1 : Nat) (a2 : Int32) (h : zHp) : Option zHp :=
  if 4 ≤ a2 then
    (zgR h a0 1 0).bind fun v1 =>
    (zstR h v1 5 5 3 a1).bind fun h2 =>
    (zpV h2 a0 1 1 (.int 3)).bind fun h3 =>
    some h3
  else
    (zgR h a0 1 0).bind fun v4 =>
    (zgR h a0 1 0).bind fun v5 =>
    (zldR h v5 5 a2).bind fun v6 =>
    (zstR h v4 5 5 (a2 - 1) v6).bind fun h7 =>
    r9 a0 a1 (a2 + 1) h7
noncomputable def f_X1_dropOldest_9 : Nat → Nat → Nat → Int32 → zHp → Option (zHp)
  | 0 => fun _ _ _ _ => none
  | n + 1 => fun a0 a1 a2 h => f_X1_dropOldest_9_body (f_X1_dropOldest_9 n) a0 a1 a2 h
noncomputable def f_X1_dropOldest (a0 : Nat) (h : zHp) : Option zHp :=
  (zgR h a0 1 0).bind fun v1 =>
  (zldR h v1 5 0).bind fun v2 =>
  f_X1_dropOldest_9 zN a0 v2 1 h
noncomputable def f_X7_isWithin_14 (h : zHp) : Option (Int32 × zHp) :=
  zbool 0 h
noncomputable def f_X7_isWithin (a0 : Int32) (a1 : Int32) (a2 : Int32) (h : zHp) : Option (Int32 × zHp) :=
  if a0 < a1 then
    f_X7_isWithin_14 h
  else
    if a2 < a0 then
      f_X7_isWithin_14 h
    else
      zbool 1 h
noncomputable def f_X4_copyFrom (a0 : Nat) (a1 : Nat) (h : zHp) : Option zHp :=
  (zgI h a1 4 0).bind fun v1 =>
  (zpV h a0 4 0 (.int v1)).bind fun h2 =>
  (zgI h2 a1 4 1).bind fun v3 =>
  (zpV h2 a0 4 1 (.int v3)).bind fun h4 =>
  (zgI h4 a1 4 2).bind fun v5 =>
  (zpV h4 a0 4 2 (.int v5)).bind fun h6 =>
  (zgI h6 a1 4 3).bind fun v7 =>
  (zpV h6 a0 4 3 (.int v7)).bind fun h8 =>
  (zgI h8 a1 4 4).bind fun v9 =>
  (zpV h8 a0 4 4 (.int v9)).bind fun h10 =>
  (zgI h10 a1 4 5).bind fun v11 =>
  (zpV h10 a0 4 5 (.int v11)).bind fun h12 =>
  (zgR h12 a1 4 7).bind fun v13 =>
  (zgR h12 a0 4 7).bind fun v14 =>
  (zcopy h12 v13 0 v14 0 4).bind fun h15 =>
  (zgR h15 a1 4 8).bind fun v16 =>
  (zgR h15 a0 4 8).bind fun v17 =>
  (zcopy h15 v16 0 v17 0 12).bind fun h18 =>
  some h18
noncomputable def f_X3_copyFrom (a0 : Nat) (a1 : Nat) (h : zHp) : Option zHp :=
  (zgR h a1 3 0).bind fun v1 =>
  (zgR h a0 3 0).bind fun v2 =>
  (zcopy h v1 0 v2 0 4).bind fun h3 =>
  (zgI h3 a1 3 1).bind fun v4 =>
  (zpV h3 a0 3 1 (.int v4)).bind fun h5 =>
  (zgI h5 a1 3 2).bind fun v6 =>
  (zpV h5 a0 3 2 (.int v6)).bind fun h7 =>
  some h7
noncomputable def f_X2_copyFrom (a0 : Nat) (a1 : Nat) (h : zHp) : Option zHp :=
  (zgR h a1 2 0).bind fun v1 =>
  (zgR h a0 2 0).bind fun v2 =>
  (zcopy h v1 0 v2 0 12).bind fun h3 =>
  (zgI h3 a1 2 1).bind fun v4 =>
  (zpV h3 a0 2 1 (.int v4)).bind fun h5 =>
  some h5
noncomputable def f_X5_copyFrom_98_body (r98 : Nat → Nat → Int32 → zHp → Option (zHp)) (a0 : Nat) (a1 : Nat) (a2 : Int32) (h : zHp) : Option zHp :=
  if 4 ≤ a2 then
    some h
  else
    (zgR h a0 5 7).bind fun v1 =>
    (zldR h v1 4 a2).bind fun v2 =>
    (zgR h a1 5 7).bind fun v3 =>
    (zldR h v3 4 a2).bind fun v4 =>
    (zif (zis h v2 2) (f_X2_copyFrom v2 v4 h)).bind fun h5 =>
    r98 a0 a1 (a2 + 1) h5
noncomputable def f_X5_copyFrom_98 : Nat → Nat → Nat → Int32 → zHp → Option (zHp)
  | 0 => fun _ _ _ _ => none
  | n + 1 => fun a0 a1 a2 h => f_X5_copyFrom_98_body (f_X5_copyFrom_98 n) a0 a1 a2 h
noncomputable def f_X5_copyFrom_69_body (r69 : Nat → Nat → Int32 → zHp → Option (zHp)) (a0 : Nat) (a1 : Nat) (a2 : Int32) (h : zHp) : Option zHp :=
  if 12 ≤ a2 then
    f_X5_copyFrom_98 zN a0 a1 0 h
  else
    (zgR h a0 5 6).bind fun v1 =>
    (zldR h v1 3 a2).bind fun v2 =>
    (zgR h a1 5 6).bind fun v3 =>
    (zldR h v3 3 a2).bind fun v4 =>
    (zif (zis h v2 3) (f_X3_copyFrom v2 v4 h)).bind fun h5 =>
    r69 a0 a1 (a2 + 1) h5
noncomputable def f_X5_copyFrom_69 : Nat → Nat → Nat → Int32 → zHp → Option (zHp)
  | 0 => fun _ _ _ _ => none
  | n + 1 => fun a0 a1 a2 h => f_X5_copyFrom_69_body (f_X5_copyFrom_69 n) a0 a1 a2 h
noncomputable def f_X5_copyFrom_40_body (r40 : Nat → Nat → Int32 → zHp → Option (zHp)) (a0 : Nat) (a1 : Nat) (a2 : Int32) (h : zHp) : Option zHp :=
  if 48 ≤ a2 then
    f_X5_copyFrom_69 zN a0 a1 0 h
  else
    (zgR h a0 5 5).bind fun v1 =>
    (zldR h v1 2 a2).bind fun v2 =>
    (zgR h a1 5 5).bind fun v3 =>
    (zldR h v3 2 a2).bind fun v4 =>
    (zif (zis h v2 4) (f_X4_copyFrom v2 v4 h)).bind fun h5 =>
    r40 a0 a1 (a2 + 1) h5
noncomputable def f_X5_copyFrom_40 : Nat → Nat → Nat → Int32 → zHp → Option (zHp)
  | 0 => fun _ _ _ _ => none
  | n + 1 => fun a0 a1 a2 h => f_X5_copyFrom_40_body (f_X5_copyFrom_40 n) a0 a1 a2 h
noncomputable def f_X5_copyFrom (a0 : Nat) (a1 : Nat) (h : zHp) : Option zHp :=
  (zgI h a1 5 2).bind fun v1 =>
  (zpV h a0 5 2 (.int v1)).bind fun h2 =>
  (zgI h2 a1 5 3).bind fun v3 =>
  (zpV h2 a0 5 3 (.int v3)).bind fun h4 =>
  (zgI h4 a1 5 4).bind fun v5 =>
  (zpV h4 a0 5 4 (.int v5)).bind fun h6 =>
  (zgR h6 a1 5 1).bind fun v7 =>
  (zgR h6 a0 5 1).bind fun v8 =>
  (zcopy h6 v7 0 v8 0 5).bind fun h9 =>
  f_X5_copyFrom_40 zN a0 a1 0 h9
noncomputable def f_X1_record_12 (a0 : Nat) (a1 : Nat) (h : zHp) : Option zHp :=
  (zgI h a0 1 1).bind fun v1 =>
  zb2 (f_X7_isWithin v1 0 3 h) fun v2 h3 =>
  if v2 = 0 then
    some h3
  else
    (zgR h3 a0 1 0).bind fun v4 =>
    (zgI h3 a0 1 1).bind fun v5 =>
    (zldR h3 v4 5 v5).bind fun v6 =>
    (zif (zis h3 v6 5) (f_X5_copyFrom v6 a1 h3)).bind fun h7 =>
    (zgI h7 a0 1 1).bind fun v8 =>
    (zpV h7 a0 1 1 (.int (v8 + 1))).bind fun h9 =>
    some h9
noncomputable def f_X1_record (a0 : Nat) (a1 : Nat) (h : zHp) : Option zHp :=
  (zgI h a0 1 1).bind fun v1 =>
  if v1 < 4 then
    f_X1_record_12 a0 a1 h
  else
    (zif (zis h a0 1) (f_X1_dropOldest a0 h)).bind fun h2 =>
    f_X1_record_12 a0 a1 h2
noncomputable def f_X1_takeBack (a0 : Nat) (a1 : Nat) (h : zHp) : Option zHp :=
  (zgI h a0 1 1).bind fun v1 =>
  if v1 ≤ 0 then
    some h
  else
    (zgI h a0 1 1).bind fun v2 =>
    if 4 < v2 then
      some h
    else
      (zgI h a0 1 1).bind fun v3 =>
      (zpV h a0 1 1 (.int (v3 - 1))).bind fun h4 =>
      (zgR h4 a0 1 0).bind fun v5 =>
      (zgI h4 a0 1 1).bind fun v6 =>
      (zldR h4 v5 5 v6).bind fun v7 =>
      (zif (zis h4 a1 5) (f_X5_copyFrom a1 v7 h4)).bind fun h8 =>
      some h8
noncomputable def f_X2_memberOfRank_27 (h : zHp) : Option (Int32 × zHp) :=
  some ((-5), h)
noncomputable def f_X2_memberOfRank (a0 : Nat) (a1 : Int32) (h : zHp) : Option (Int32 × zHp) :=
  if a1 < 0 then
    f_X2_memberOfRank_27 h
  else
    (zgI h a0 2 1).bind fun v1 =>
    if v1 ≤ a1 then
      f_X2_memberOfRank_27 h
    else
      if 12 ≤ a1 then
        f_X2_memberOfRank_27 h
      else
        (zgR h a0 2 0).bind fun v2 =>
        (zld h v2 0 a1).bind fun v3 =>
        some (v3, h)
noncomputable def f_X2_has_2_body (r2 : Nat → Int32 → Int32 → zHp → Option (Int32 × zHp)) (a0 : Nat) (a1 : Int32) (a2 : Int32) (h : zHp) : Option (Int32 × zHp) :=
  (zgI h a0 2 1).bind fun v1 =>
  if v1 ≤ a2 then
    zbool 0 h
  else
    zb2 (zif (zis h a0 2) (f_X2_memberOfRank a0 a2 h)) fun v2 h3 =>
    if v2 = a1 then
      zbool 1 h3
    else
      r2 a0 a1 (a2 + 1) h3
noncomputable def f_X2_has_2 : Nat → Nat → Int32 → Int32 → zHp → Option (Int32 × zHp)
  | 0 => fun _ _ _ _ => none
  | n + 1 => fun a0 a1 a2 h => f_X2_has_2_body (f_X2_has_2 n) a0 a1 a2 h
noncomputable def f_X2_has (a0 : Nat) (a1 : Int32) (h : zHp) : Option (Int32 × zHp) :=
  f_X2_has_2 zN a0 a1 0 h
noncomputable def f_X2_takeOff_61 (a0 : Nat) (a2 : Int32) (h : zHp) : Option (Int32 × zHp) :=
  if a2 = 0 then
    (zgI h a0 2 1).bind fun v1 =>
    some (v1, h)
  else
    (zgI h a0 2 1).bind fun v2 =>
    (zpV h a0 2 1 (.int (v2 - 1))).bind fun h3 =>
    (zgI h3 a0 2 1).bind fun v4 =>
    some (v4, h3)
noncomputable def f_X2_takeOff_55 (r4 : Nat → Int32 → Int32 → Int32 → zHp → Option (Int32 × zHp)) (a0 : Nat) (a1 : Int32) (a2 : Int32) (a3 : Int32) (h : zHp) : Option (Int32 × zHp) :=
  r4 a0 a1 a2 (a3 + 1) h
noncomputable def f_X2_takeOff_43 (r4 : Nat → Int32 → Int32 → Int32 → zHp → Option (Int32 × zHp)) (a0 : Nat) (a1 : Int32) (a2 : Int32) (a3 : Int32) (h : zHp) : Option (Int32 × zHp) :=
  (zgR h a0 2 0).bind fun v1 =>
  (zld h v1 0 a3).bind fun v2 =>
  if v2 = a1 then
    f_X2_takeOff_55 r4 a0 a1 1 a3 h
  else
    f_X2_takeOff_55 r4 a0 a1 a2 a3 h
noncomputable def f_X2_takeOff_4_body (r4 : Nat → Int32 → Int32 → Int32 → zHp → Option (Int32 × zHp)) (a0 : Nat) (a1 : Int32) (a2 : Int32) (a3 : Int32) (h : zHp) : Option (Int32 × zHp) :=
  (zgI h a0 2 1).bind fun v1 =>
  if v1 ≤ a3 then
    f_X2_takeOff_61 a0 a2 h
  else
    if 12 ≤ a3 then
      f_X2_takeOff_61 a0 a2 h
    else
      if a2 = 0 then
        f_X2_takeOff_43 r4 a0 a1 a2 a3 h
      else
        if a3 ≤ 0 then
          f_X2_takeOff_43 r4 a0 a1 a2 a3 h
        else
          (zgR h a0 2 0).bind fun v2 =>
          (zgR h a0 2 0).bind fun v3 =>
          (zld h v3 0 a3).bind fun v4 =>
          (zst h v2 0 (a3 - 1) v4).bind fun h5 =>
          f_X2_takeOff_55 r4 a0 a1 a2 a3 h5
noncomputable def f_X2_takeOff_4 : Nat → Nat → Int32 → Int32 → Int32 → zHp → Option (Int32 × zHp)
  | 0 => fun _ _ _ _ _ => none
  | n + 1 => fun a0 a1 a2 a3 h => f_X2_takeOff_4_body (f_X2_takeOff_4 n) a0 a1 a2 a3 h
noncomputable def f_X2_takeOff (a0 : Nat) (a1 : Int32) (h : zHp) : Option (Int32 × zHp) :=
  f_X2_takeOff_4 zN a0 a1 0 0 h
noncomputable def f_X2_putLast (a0 : Nat) (a1 : Int32) (h : zHp) : Option (Int32 × zHp) :=
  zb2 (zif (zis h a0 2) (f_X2_takeOff a0 a1 h)) fun v1 h2 =>
  (zgI h2 a0 2 1).bind fun v3 =>
  zb2 (f_X7_isWithin v3 0 11 h2) fun v4 h5 =>
  if v4 = 0 then
    (zgI h5 a0 2 1).bind fun v6 =>
    some (v6, h5)
  else
    (zgR h5 a0 2 0).bind fun v7 =>
    (zgI h5 a0 2 1).bind fun v8 =>
    (zst h5 v7 0 v8 a1).bind fun h9 =>
    (zgI h9 a0 2 1).bind fun v10 =>
    (zpV h9 a0 2 1 (.int (v10 + 1))).bind fun h11 =>
    (zgI h11 a0 2 1).bind fun v12 =>
    some (v12, h11)
noncomputable def f_X7_isRole_13 (h : zHp) : Option (Int32 × zHp) :=
  zbool 0 h
noncomputable def f_X7_isRole (a0 : Int32) (h : zHp) : Option (Int32 × zHp) :=
  if a0 < 0 then
    f_X7_isRole_13 h
  else
    if 4 ≤ a0 then
      f_X7_isRole_13 h
    else
      zbool 1 h
noncomputable def f_X3_certificateOf (a0 : Nat) (a1 : Int32) (h : zHp) : Option (Int32 × zHp) :=
  zb2 (f_X7_isRole a1 h) fun v1 h2 =>
  if v1 = 0 then
    some (0, h2)
  else
    (zgR h2 a0 3 0).bind fun v3 =>
    (zld h2 v3 0 a1).bind fun v4 =>
    some (v4, h2)
noncomputable def f_X3_replaceCertificate (a0 : Nat) (a1 : Int32) (a2 : Int32) (h : zHp) : Option (Int32 × zHp) :=
  zb2 (zif (zis h a0 3) (f_X3_certificateOf a0 a1 h)) fun v1 h2 =>
  zb2 (f_X7_isRole a1 h2) fun v3 h4 =>
  if v3 = 0 then
    some (v1, h4)
  else
    (zgR h4 a0 3 0).bind fun v5 =>
    (zst h4 v5 0 a1 a2).bind fun h6 =>
    some (v1, h6)
noncomputable def f_X4_come_41_body (r41 : Nat → Int32 → Int32 → zHp → Option (zHp)) (a0 : Nat) (a6 : Int32) (a7 : Int32) (h : zHp) : Option zHp :=
  if a7 < 0 then
    some h
  else
    (zgR h a0 4 7).bind fun v1 =>
    (zrem a6 10).bind fun v2 =>
    (zst h v1 0 a7 v2).bind fun h3 =>
    (zdiv a6 10).bind fun v4 =>
    r41 a0 v4 (a7 + (-1)) h3
noncomputable def f_X4_come_41 : Nat → Nat → Int32 → Int32 → zHp → Option (zHp)
  | 0 => fun _ _ _ _ => none
  | n + 1 => fun a0 a6 a7 h => f_X4_come_41_body (f_X4_come_41 n) a0 a6 a7 h
noncomputable def f_X4_come (a0 : Nat) (a1 : Int32) (a2 : Int32) (a3 : Int32) (a4 : Int32) (a5 : Int32) (h : zHp) : Option zHp :=
  (zpV h a0 4 0 (.int a1)).bind fun h1 =>
  (zpV h1 a0 4 1 (.int a2)).bind fun h2 =>
  (zpV h2 a0 4 2 (.int a3)).bind fun h3 =>
  (zpV h3 a0 4 3 (.int (a3 + a4))).bind fun h4 =>
  (zpV h4 a0 4 4 (.int a5)).bind fun h5 =>
  (zpV h5 a0 4 5 (.int 0)).bind fun h6 =>
  f_X4_come_41 zN a0 a5 3 h6
noncomputable def f_X4_hasCome (a0 : Nat) (h : zHp) : Option (Int32 × zHp) :=
  (zgI h a0 4 5).bind fun v1 =>
  if v1 = 3 then
    zbool 0 h
  else
    zbool 1 h
noncomputable def f_X4_isOpen (a0 : Nat) (h : zHp) : Option (Int32 × zHp) :=
  (zgI h a0 4 5).bind fun v1 =>
  if v1 = 0 then
    zbool 1 h
  else
    zbool 0 h
noncomputable def f_X4_occupies_55 (h : zHp) : Option (Int32 × zHp) :=
  zbool 0 h
noncomputable def f_X4_occupies_20 (a0 : Nat) (a1 : Int32) (a2 : Int32) (a3 : Int32) (s0 : Int32) (h : zHp) : Option (Int32 × zHp) :=
  if s0 = 0 then
    f_X4_occupies_55 h
  else
    (zgI h a0 4 1).bind fun v1 =>
    if v1 = a1 then
      (zgI h a0 4 2).bind fun v2 =>
      if a3 ≤ v2 then
        f_X4_occupies_55 h
      else
        (zgI h a0 4 3).bind fun v3 =>
        if v3 ≤ a2 then
          f_X4_occupies_55 h
        else
          zbool 1 h
    else
      f_X4_occupies_55 h
noncomputable def f_X4_occupies_15 (a0 : Nat) (a1 : Int32) (a2 : Int32) (a3 : Int32) (h : zHp) : Option (Int32 × zHp) :=
  f_X4_occupies_20 a0 a1 a2 a3 1 h
noncomputable def f_X4_occupies (a0 : Nat) (a1 : Int32) (a2 : Int32) (a3 : Int32) (h : zHp) : Option (Int32 × zHp) :=
  (zgI h a0 4 5).bind fun v1 =>
  if v1 = 0 then
    f_X4_occupies_15 a0 a1 a2 a3 h
  else
    (zgI h a0 4 5).bind fun v2 =>
    if v2 = 1 then
      f_X4_occupies_15 a0 a1 a2 a3 h
    else
      f_X4_occupies_20 a0 a1 a2 a3 0 h
noncomputable def f_X7_isMemberNumber_14 (h : zHp) : Option (Int32 × zHp) :=
  zbool 0 h
noncomputable def f_X7_isMemberNumber (a0 : Int32) (h : zHp) : Option (Int32 × zHp) :=
  if a0 < 0 then
    f_X7_isMemberNumber_14 h
  else
    if 12 ≤ a0 then
      f_X7_isMemberNumber_14 h
    else
      zbool 1 h
noncomputable def f_X4_roleOf (a0 : Nat) (a1 : Int32) (h : zHp) : Option (Int32 × zHp) :=
  zb2 (f_X7_isMemberNumber a1 h) fun v1 h2 =>
  if v1 = 0 then
    some ((-1), h2)
  else
    (zgR h2 a0 4 8).bind fun v3 =>
    (zld h2 v3 0 a1).bind fun v4 =>
    some (v4, h2)
noncomputable def f_X4_seats (a0 : Nat) (a1 : Int32) (h : zHp) : Option (Int32 × zHp) :=
  zb2 (zif (zis h a0 4) (f_X4_roleOf a0 a1 h)) fun v1 h2 =>
  if v1 = (-1) then
    zbool 0 h2
  else
    zbool 1 h2
noncomputable def f_X4_seat (a0 : Nat) (a1 : Int32) (a2 : Int32) (h : zHp) : Option zHp :=
  zb2 (f_X7_isMemberNumber a1 h) fun v1 h2 =>
  if v1 = 0 then
    some h2
  else
    (zgR h2 a0 4 8).bind fun v3 =>
    (zst h2 v3 0 a1 a2).bind fun h4 =>
    some h4
noncomputable def f_X4_unseat (a0 : Nat) (a1 : Int32) (h : zHp) : Option (Int32 × zHp) :=
  zb2 (zif (zis h a0 4) (f_X4_roleOf a0 a1 h)) fun v1 h2 =>
  (zif (zis h2 a0 4) (f_X4_seat a0 a1 (-1) h2)).bind fun h3 =>
  some (v1, h3)
noncomputable def f_X4_takenPlaces_23 (r4 : Nat → Int32 → Int32 → zHp → Option (Int32 × zHp)) (a0 : Nat) (a1 : Int32) (a2 : Int32) (h : zHp) : Option (Int32 × zHp) :=
  r4 a0 a1 (a2 + 1) h
noncomputable def f_X4_takenPlaces_4_body (r4 : Nat → Int32 → Int32 → zHp → Option (Int32 × zHp)) (a0 : Nat) (a1 : Int32) (a2 : Int32) (h : zHp) : Option (Int32 × zHp) :=
  if 12 ≤ a2 then
    some (a1, h)
  else
    (zgR h a0 4 8).bind fun v1 =>
    (zld h v1 0 a2).bind fun v2 =>
    if v2 = (-1) then
      f_X4_takenPlaces_23 r4 a0 a1 a2 h
    else
      f_X4_takenPlaces_23 r4 a0 (a1 + 1) a2 h
noncomputable def f_X4_takenPlaces_4 : Nat → Nat → Int32 → Int32 → zHp → Option (Int32 × zHp)
  | 0 => fun _ _ _ _ => none
  | n + 1 => fun a0 a1 a2 h => f_X4_takenPlaces_4_body (f_X4_takenPlaces_4 n) a0 a1 a2 h
noncomputable def f_X4_takenPlaces (a0 : Nat) (h : zHp) : Option (Int32 × zHp) :=
  f_X4_takenPlaces_4 zN a0 0 0 h
noncomputable def f_X4_callOff (a0 : Nat) (h : zHp) : Option (Int32 × zHp) :=
  zb2 (zif (zis h a0 4) (f_X4_takenPlaces a0 h)) fun v1 h2 =>
  (zpV h2 a0 4 5 (.int 2)).bind fun h3 =>
  (zif (zis h3 a0 4) (f_X4_unseatAll a0 h3)).bind fun h4 =>
  some (v1, h4)
noncomputable def f_X4_allPlaces_4_body (r4 : Nat → Int32 → Int32 → zHp → Option (Int32 × zHp)) (a0 : Nat) (a1 : Int32) (a2 : Int32) (h : zHp) : Option (Int32 × zHp) :=
  if 4 ≤ a2 then
    some (a1, h)
  else
    (zgR h a0 4 7).bind fun v1 =>
    (zld h v1 0 a2).bind fun v2 =>
    r4 a0 (a1 + v2) (a2 + 1) h
noncomputable def f_X4_allPlaces_4 : Nat → Nat → Int32 → Int32 → zHp → Option (Int32 × zHp)
  | 0 => fun _ _ _ _ => none
  | n + 1 => fun a0 a1 a2 h => f_X4_allPlaces_4_body (f_X4_allPlaces_4 n) a0 a1 a2 h
noncomputable def f_X4_allPlaces (a0 : Nat) (h : zHp) : Option (Int32 × zHp) :=
  f_X4_allPlaces_4 zN a0 0 0 h
noncomputable def f_X4_freePlaces (a0 : Nat) (h : zHp) : Option (Int32 × zHp) :=
  zb2 (zif (zis h a0 4) (f_X4_allPlaces a0 h)) fun v1 h2 =>
  zb2 (zif (zis h2 a0 4) (f_X4_takenPlaces a0 h2)) fun v3 h4 =>
  some ((v1 - v3), h4)
noncomputable def f_X4_depart (a0 : Nat) (h : zHp) : Option zHp :=
  zb2 (zif (zis h a0 4) (f_X4_freePlaces a0 h)) fun v1 h2 =>
  if v1 = 0 then
    (zpV h2 a0 4 5 (.int 1)).bind fun h5 =>
    some h5
  else
    zb2 (zif (zis h2 a0 4) (f_X4_callOff a0 h2)) fun v3 h4 =>
    some h4
noncomputable def f_X4_freePlacesOf_37 (r18 : Nat → Int32 → Int32 → Int32 → zHp → Option (Int32 × zHp)) (a0 : Nat) (a1 : Int32) (a2 : Int32) (a3 : Int32) (h : zHp) : Option (Int32 × zHp) :=
  r18 a0 a1 a2 (a3 + 1) h
noncomputable def f_X4_freePlacesOf_18_body (r18 : Nat → Int32 → Int32 → Int32 → zHp → Option (Int32 × zHp)) (a0 : Nat) (a1 : Int32) (a2 : Int32) (a3 : Int32) (h : zHp) : Option (Int32 × zHp) :=
  if 12 ≤ a3 then
    some (a2, h)
  else
    (zgR h a0 4 8).bind fun v1 =>
    (zld h v1 0 a3).bind fun v2 =>
    if v2 = a1 then
      f_X4_freePlacesOf_37 r18 a0 a1 (a2 + (-1)) a3 h
    else
      f_X4_freePlacesOf_37 r18 a0 a1 a2 a3 h
noncomputable def f_X4_freePlacesOf_18 : Nat → Nat → Int32 → Int32 → Int32 → zHp → Option (Int32 × zHp)
  | 0 => fun _ _ _ _ _ => none
  | n + 1 => fun a0 a1 a2 a3 h => f_X4_freePlacesOf_18_body (f_X4_freePlacesOf_18 n) a0 a1 a2 a3 h
noncomputable def f_X4_freePlacesOf (a0 : Nat) (a1 : Int32) (h : zHp) : Option (Int32 × zHp) :=
  zb2 (f_X7_isRole a1 h) fun v1 h2 =>
  if v1 = 0 then
    some (0, h2)
  else
    (zgR h2 a0 4 7).bind fun v3 =>
    (zld h2 v3 0 a1).bind fun v4 =>
    f_X4_freePlacesOf_18 zN a0 a1 v4 0 h2
noncomputable def f_X4_memberOfRank_41 (r4 : Nat → Int32 → Int32 → Int32 → zHp → Option (Int32 × zHp)) (r12 : Nat → Int32 → Int32 → Int32 → Int32 → zHp → Option (Int32 × zHp)) (a0 : Nat) (a1 : Int32) (a2 : Int32) (a3 : Int32) (a4 : Int32) (h : zHp) : Option (Int32 × zHp) :=
  r12 a0 a1 a2 a3 (a4 + 1) h
noncomputable def f_X4_memberOfRank_12_body (r4 : Nat → Int32 → Int32 → Int32 → zHp → Option (Int32 × zHp)) (r12 : Nat → Int32 → Int32 → Int32 → Int32 → zHp → Option (Int32 × zHp)) (a0 : Nat) (a1 : Int32) (a2 : Int32) (a3 : Int32) (a4 : Int32) (h : zHp) : Option (Int32 × zHp) :=
  if 12 ≤ a4 then
    r4 a0 a1 a2 (a3 + 1) h
  else
    (zgR h a0 4 8).bind fun v1 =>
    (zld h v1 0 a4).bind fun v2 =>
    if v2 = a3 then
      if a2 = a1 then
        some (a4, h)
      else
        f_X4_memberOfRank_41 r4 r12 a0 a1 (a2 + 1) a3 a4 h
    else
      f_X4_memberOfRank_41 r4 r12 a0 a1 a2 a3 a4 h
noncomputable def f_X4_memberOfRank_12 (r4 : Nat → Int32 → Int32 → Int32 → zHp → Option (Int32 × zHp)) : Nat → Nat → Int32 → Int32 → Int32 → Int32 → zHp → Option (Int32 × zHp)
  | 0 => fun _ _ _ _ _ _ => none
  | n + 1 => fun a0 a1 a2 a3 a4 h => f_X4_memberOfRank_12_body r4 (f_X4_memberOfRank_12 r4 n) a0 a1 a2 a3 a4 h
noncomputable def f_X4_memberOfRank_4_body (r4 : Nat → Int32 → Int32 → Int32 → zHp → Option (Int32 × zHp)) (a0 : Nat) (a1 : Int32) (a2 : Int32) (a3 : Int32) (h : zHp) : Option (Int32 × zHp) :=
  if 4 ≤ a3 then
    some ((-5), h)
  else
    f_X4_memberOfRank_12 r4 zN a0 a1 a2 a3 0 h
noncomputable def f_X4_memberOfRank_4 : Nat → Nat → Int32 → Int32 → Int32 → zHp → Option (Int32 × zHp)
  | 0 => fun _ _ _ _ _ => none
  | n + 1 => fun a0 a1 a2 a3 h => f_X4_memberOfRank_4_body (f_X4_memberOfRank_4 n) a0 a1 a2 a3 h
noncomputable def f_X4_memberOfRank (a0 : Nat) (a1 : Int32) (h : zHp) : Option (Int32 × zHp) :=
  f_X4_memberOfRank_4 zN a0 a1 0 0 h
noncomputable def f_X5_sailingAt_43 (r11 : Int32 → Nat → Int32 → Int32 → zHp → Option (Option Nat × zHp)) (a1 : Int32) (a2 : Nat) (a3 : Int32) (a4 : Int32) (h : zHp) : Option (Option Nat × zHp) :=
  r11 a1 a2 a3 (a4 + 1) h
noncomputable def f_X5_sailingAt_11_body (r11 : Int32 → Nat → Int32 → Int32 → zHp → Option (Option Nat × zHp)) (a1 : Int32) (a2 : Nat) (a3 : Int32) (a4 : Int32) (h : zHp) : Option (Option Nat × zHp) :=
  if a3 ≤ a4 then
    some (none, h)
  else
    (zldR h a2 2 a4).bind fun v1 =>
    zb2 (zif (zis h v1 4) (f_X4_hasCome v1 h)) fun v2 h3 =>
    if v2 = 0 then
      f_X5_sailingAt_43 r11 a1 a2 a3 a4 h3
    else
      (zgI h3 v1 4 0).bind fun v4 =>
      if v4 = a1 then
        some ((some v1), h3)
      else
        f_X5_sailingAt_43 r11 a1 a2 a3 a4 h3
noncomputable def f_X5_sailingAt_11 : Nat → Int32 → Nat → Int32 → Int32 → zHp → Option (Option Nat × zHp)
  | 0 => fun _ _ _ _ _ => none
  | n + 1 => fun a1 a2 a3 a4 h => f_X5_sailingAt_11_body (f_X5_sailingAt_11 n) a1 a2 a3 a4 h
noncomputable def f_X5_sailingAt (a0 : Nat) (a1 : Int32) (h : zHp) : Option (Option Nat × zHp) :=
  (zgR h a0 5 5).bind fun v1 =>
  (zlnR h v1 2).bind fun v2 =>
  f_X5_sailingAt_11 zN a1 v1 v2 0 h
noncomputable def f_X5_memberAt_24 (h : zHp) : Option (Option Nat × zHp) :=
  some (none, h)
noncomputable def f_X5_memberAt (a0 : Nat) (a1 : Int32) (h : zHp) : Option (Option Nat × zHp) :=
  zb2 (f_X7_isMemberNumber a1 h) fun v1 h2 =>
  if v1 = 0 then
    f_X5_memberAt_24 h2
  else
    (zgI h2 a0 5 4).bind fun v3 =>
    if v3 ≤ a1 then
      f_X5_memberAt_24 h2
    else
      (zgR h2 a0 5 6).bind fun v4 =>
      (zldR h2 v4 3 a1).bind fun v5 =>
      some ((some v5), h2)
noncomputable def f_X5_ladderOf (a0 : Nat) (a1 : Int32) (h : zHp) : Option (Option Nat × zHp) :=
  zb2 (f_X7_isRole a1 h) fun v1 h2 =>
  if v1 = 0 then
    some (none, h2)
  else
    (zgR h2 a0 5 7).bind fun v3 =>
    (zldR h2 v3 4 a1).bind fun v4 =>
    some ((some v4), h2)
noncomputable def f_X7_isSet_17_body (r17 : Int32 → Int32 → zHp → Option (Int32 × zHp)) (a1 : Int32) (a2 : Int32) (h : zHp) : Option (Int32 × zHp) :=
  if 4 ≤ a2 then
    zbool 1 h
  else
    (zrem a1 10).bind fun v1 =>
    if v1 ≤ 3 then
      (zdiv a1 10).bind fun v2 =>
      r17 v2 (a2 + 1) h
    else
      zbool 0 h
noncomputable def f_X7_isSet_17 : Nat → Int32 → Int32 → zHp → Option (Int32 × zHp)
  | 0 => fun _ _ _ => none
  | n + 1 => fun a1 a2 h => f_X7_isSet_17_body (f_X7_isSet_17 n) a1 a2 h
noncomputable def f_X7_isSet (a0 : Int32) (h : zHp) : Option (Int32 × zHp) :=
  zb2 (f_X7_isWithin a0 1 3333 h) fun v1 h2 =>
  if v1 = 0 then
    zbool 0 h2
  else
    f_X7_isSet_17 zN a0 0 h2
noncomputable def f_X5_refusalOf_60_body (r60 : Nat → Int32 → Int32 → Int32 → Nat → Int32 → Int32 → zHp → Option (Int32 × zHp)) (a0 : Nat) (a1 : Int32) (a2 : Int32) (a3 : Int32) (a5 : Nat) (a6 : Int32) (a7 : Int32) (h : zHp) : Option (Int32 × zHp) :=
  if a6 ≤ a7 then
    (zgI h a0 5 3).bind fun v1 =>
    if v1 < 48 then
      some (0, h)
    else
      some ((-3), h)
  else
    (zldR h a5 2 a7).bind fun v2 =>
    zb2 (zif (zis h v2 4) (f_X4_occupies v2 a1 a2 (a2 + a3) h)) fun v3 h4 =>
    if v3 = 0 then
      r60 a0 a1 a2 a3 a5 a6 (a7 + 1) h4
    else
      some ((-4), h4)
noncomputable def f_X5_refusalOf_60 : Nat → Nat → Int32 → Int32 → Int32 → Nat → Int32 → Int32 → zHp → Option (Int32 × zHp)
  | 0 => fun _ _ _ _ _ _ _ _ => none
  | n + 1 => fun a0 a1 a2 a3 a5 a6 a7 h => f_X5_refusalOf_60_body (f_X5_refusalOf_60 n) a0 a1 a2 a3 a5 a6 a7 h
noncomputable def f_X5_refusalOf (a0 : Nat) (a1 : Int32) (a2 : Int32) (a3 : Int32) (a4 : Int32) (h : zHp) : Option (Int32 × zHp) :=
  zb2 (f_X7_isWithin a1 0 5 h) fun v1 h2 =>
  if v1 = 0 then
    some ((-1), h2)
  else
    (zgI h2 a0 5 2).bind fun v3 =>
    zb2 (f_X7_isWithin a2 v3 900 h2) fun v4 h5 =>
    if v4 = 0 then
      some ((-2), h5)
    else
      zb2 (f_X7_isWithin a3 1 12 h5) fun v6 h7 =>
      if v6 = 0 then
        some ((-2), h7)
      else
        zb2 (f_X7_isSet a4 h7) fun v8 h9 =>
        if v8 = 0 then
          some ((-2), h9)
        else
          (zgR h9 a0 5 5).bind fun v10 =>
          (zlnR h9 v10 2).bind fun v11 =>
          f_X5_refusalOf_60 zN a0 a1 a2 a3 v10 v11 0 h9
noncomputable def f_X5_addSailing_89 (a0 : Nat) (a5 : Int32) (a6 : Nat) (a7 : Int32) (h : zHp) : Option (Int32 × zHp) :=
  (zgR h a0 5 5).bind fun v1 =>
  (zstR h v1 2 4 a7 a6).bind fun h2 =>
  (zgI h2 a0 5 3).bind fun v3 =>
  (zpV h2 a0 5 3 (.int (v3 + 1))).bind fun h4 =>
  some (a5, h4)
noncomputable def f_X5_addSailing_46_body (r46 : Nat → Int32 → Int32 → Nat → Int32 → zHp → Option (Int32 × zHp)) (a0 : Nat) (a2 : Int32) (a5 : Int32) (a6 : Nat) (a7 : Int32) (h : zHp) : Option (Int32 × zHp) :=
  if a7 ≤ 0 then
    f_X5_addSailing_89 a0 a5 a6 a7 h
  else
    (zgR h a0 5 5).bind fun v1 =>
    (zldR h v1 2 (a7 - 1)).bind fun v2 =>
    (zgI h v2 4 2).bind fun v3 =>
    if v3 ≤ a2 then
      f_X5_addSailing_89 a0 a5 a6 a7 h
    else
      (zgR h a0 5 5).bind fun v4 =>
      (zgR h a0 5 5).bind fun v5 =>
      (zldR h v5 2 (a7 - 1)).bind fun v6 =>
      (zstR h v4 2 4 a7 v6).bind fun h7 =>
      r46 a0 a2 a5 a6 (a7 + (-1)) h7
noncomputable def f_X5_addSailing_46 : Nat → Nat → Int32 → Int32 → Nat → Int32 → zHp → Option (Int32 × zHp)
  | 0 => fun _ _ _ _ _ _ => none
  | n + 1 => fun a0 a2 a5 a6 a7 h => f_X5_addSailing_46_body (f_X5_addSailing_46 n) a0 a2 a5 a6 a7 h
noncomputable def f_X5_addSailing (a0 : Nat) (a1 : Int32) (a2 : Int32) (a3 : Int32) (a4 : Int32) (h : zHp) : Option (Int32 × zHp) :=
  (zgI h a0 5 3).bind fun v1 =>
  if v1 < 0 then
    some ((-3), h)
  else
    if v1 < 48 then
      (zgR h a0 5 5).bind fun v2 =>
      (zldR h v2 2 v1).bind fun v3 =>
      (zif (zis h v3 4) (f_X4_come v3 v1 a1 a2 a3 a4 h)).bind fun h4 =>
      f_X5_addSailing_46 zN a0 a2 v1 v3 v1 h4
    else
      some ((-3), h)
noncomputable def f_X5_addMember (a0 : Nat) (a1 : Int32) (a2 : Int32) (h : zHp) : Option (Int32 × zHp) :=
  (zgI h a0 5 4).bind fun v1 =>
  zb2 (f_X7_isMemberNumber v1 h) fun v2 h3 =>
  if v2 = 0 then
    some ((-3), h3)
  else
    zb2 (f_X7_isRole a1 h3) fun v4 h5 =>
    if v4 = 0 then
      some ((-3), h5)
    else
      (zgI h5 a0 5 4).bind fun v6 =>
      (zpV h5 a0 5 4 (.int (v6 + 1))).bind fun h7 =>
      (zgR h7 a0 5 6).bind fun v8 =>
      (zldR h7 v8 3 v1).bind fun v9 =>
      zb2 (zif (zis h7 v9 3) (f_X3_replaceCertificate v9 a1 a2 h7)) fun v10 h11 =>
      (zgR h11 a0 5 7).bind fun v12 =>
      (zldR h11 v12 4 a1).bind fun v13 =>
      zb2 (zif (zis h11 v13 2) (f_X2_putLast v13 v1 h11)) fun v14 h15 =>
      some (v1, h15)
noncomputable def f_X5_needsCertificateAfter_57 (r14 : Int32 → Int32 → Int32 → Nat → Int32 → Int32 → zHp → Option (Int32 × zHp)) (a1 : Int32) (a2 : Int32) (a3 : Int32) (a4 : Nat) (a5 : Int32) (a6 : Int32) (h : zHp) : Option (Int32 × zHp) :=
  r14 a1 a2 a3 a4 a5 (a6 + 1) h
noncomputable def f_X5_needsCertificateAfter_14_body (r14 : Int32 → Int32 → Int32 → Nat → Int32 → Int32 → zHp → Option (Int32 × zHp)) (a1 : Int32) (a2 : Int32) (a3 : Int32) (a4 : Nat) (a5 : Int32) (a6 : Int32) (h : zHp) : Option (Int32 × zHp) :=
  if a5 ≤ a6 then
    zbool 0 h
  else
    (zldR h a4 2 a6).bind fun v1 =>
    zb2 (zif (zis h v1 4) (f_X4_isOpen v1 h)) fun v2 h3 =>
    if v2 = 0 then
      f_X5_needsCertificateAfter_57 r14 a1 a2 a3 a4 a5 a6 h3
    else
      (zgI h3 v1 4 3).bind fun v4 =>
      if v4 ≤ a3 then
        f_X5_needsCertificateAfter_57 r14 a1 a2 a3 a4 a5 a6 h3
      else
        zb2 (zif (zis h3 v1 4) (f_X4_roleOf v1 a1 h3)) fun v5 h6 =>
        if v5 = a2 then
          zbool 1 h6
        else
          f_X5_needsCertificateAfter_57 r14 a1 a2 a3 a4 a5 a6 h6
noncomputable def f_X5_needsCertificateAfter_14 : Nat → Int32 → Int32 → Int32 → Nat → Int32 → Int32 → zHp → Option (Int32 × zHp)
  | 0 => fun _ _ _ _ _ _ _ => none
  | n + 1 => fun a1 a2 a3 a4 a5 a6 h => f_X5_needsCertificateAfter_14_body (f_X5_needsCertificateAfter_14 n) a1 a2 a3 a4 a5 a6 h
noncomputable def f_X5_needsCertificateAfter (a0 : Nat) (a1 : Int32) (a2 : Int32) (a3 : Int32) (h : zHp) : Option (Int32 × zHp) :=
  (zgR h a0 5 5).bind fun v1 =>
  (zlnR h v1 2).bind fun v2 =>
  f_X5_needsCertificateAfter_14 zN a1 a2 a3 v1 v2 0 h
noncomputable def f_X5_dutiesOf_121 (r84 : Nat → Int32 → Option Nat → Nat → Int32 → Int32 → zHp → Option (Option Nat × zHp)) (a0 : Nat) (a1 : Int32) (a2 : Option Nat) (a3 : Nat) (a4 : Int32) (a5 : Int32) (h : zHp) : Option (Option Nat × zHp) :=
  r84 a0 a1 a2 a3 a4 (a5 + 1) h
noncomputable def f_X5_dutiesOf_112 (r84 : Nat → Int32 → Option Nat → Nat → Int32 → Int32 → zHp → Option (Option Nat × zHp)) (a0 : Nat) (a1 : Int32) (a2 : Option Nat) (a3 : Nat) (a4 : Int32) (a5 : Int32) (a6 : Nat) (h : zHp) : Option (Option Nat × zHp) :=
  (zgR h a0 5 0).bind fun v1 =>
  (zif (zis h v1 0) (f_X0_addHandover v1 a6 h)).bind fun h2 =>
  f_X5_dutiesOf_121 r84 a0 a1 a2 a3 a4 a5 h2
noncomputable def f_X5_dutiesOf_84_body (r84 : Nat → Int32 → Option Nat → Nat → Int32 → Int32 → zHp → Option (Option Nat × zHp)) (a0 : Nat) (a1 : Int32) (a2 : Option Nat) (a3 : Nat) (a4 : Int32) (a5 : Int32) (h : zHp) : Option (Option Nat × zHp) :=
  if a4 ≤ a5 then
    (zgR h a0 5 0).bind fun v1 =>
    some ((some v1), h)
  else
    (zldR h a3 2 a5).bind fun v2 =>
    if (some v2) = a2 then
      f_X5_dutiesOf_112 r84 a0 a1 a2 a3 a4 a5 v2 h
    else
      zb2 (zif (zis h v2 4) (f_X4_seats v2 a1 h)) fun v3 h4 =>
      if v3 = 0 then
        f_X5_dutiesOf_121 r84 a0 a1 a2 a3 a4 a5 h4
      else
        f_X5_dutiesOf_112 r84 a0 a1 a2 a3 a4 a5 v2 h4
noncomputable def f_X5_dutiesOf_84 : Nat → Nat → Int32 → Option Nat → Nat → Int32 → Int32 → zHp → Option (Option Nat × zHp)
  | 0 => fun _ _ _ _ _ _ _ => none
  | n + 1 => fun a0 a1 a2 a3 a4 a5 h => f_X5_dutiesOf_84_body (f_X5_dutiesOf_84 n) a0 a1 a2 a3 a4 a5 h
noncomputable def f_X5_dutiesOf_56 (r19 : Nat → Int32 → Option Nat → Nat → Int32 → Int32 → zHp → Option (Option Nat × zHp)) (a0 : Nat) (a1 : Int32) (a2 : Option Nat) (a3 : Nat) (a4 : Int32) (a5 : Int32) (h : zHp) : Option (Option Nat × zHp) :=
  r19 a0 a1 a2 a3 a4 (a5 + 1) h
noncomputable def f_X5_dutiesOf_47 (r19 : Nat → Int32 → Option Nat → Nat → Int32 → Int32 → zHp → Option (Option Nat × zHp)) (a0 : Nat) (a1 : Int32) (a2 : Option Nat) (a3 : Nat) (a4 : Int32) (a5 : Int32) (a6 : Nat) (h : zHp) : Option (Option Nat × zHp) :=
  (zgR h a0 5 0).bind fun v1 =>
  (zif (zis h v1 0) (f_X0_addSailing v1 a6 h)).bind fun h2 =>
  f_X5_dutiesOf_56 r19 a0 a1 a2 a3 a4 a5 h2
noncomputable def f_X5_dutiesOf_19_body (r19 : Nat → Int32 → Option Nat → Nat → Int32 → Int32 → zHp → Option (Option Nat × zHp)) (a0 : Nat) (a1 : Int32) (a2 : Option Nat) (a3 : Nat) (a4 : Int32) (a5 : Int32) (h : zHp) : Option (Option Nat × zHp) :=
  if a4 ≤ a5 then
    (zgR h a0 5 1).bind fun v1 =>
    (zld h v1 0 3).bind fun v2 =>
    if v2 = 1 then
      (zgR h a0 5 5).bind fun v4 =>
      (zlnR h v4 2).bind fun v5 =>
      f_X5_dutiesOf_84 zN a0 a1 a2 v4 v5 0 h
    else
      (zgR h a0 5 0).bind fun v3 =>
      some ((some v3), h)
  else
    (zldR h a3 2 a5).bind fun v6 =>
    if (some v6) = a2 then
      f_X5_dutiesOf_47 r19 a0 a1 a2 a3 a4 a5 v6 h
    else
      zb2 (zif (zis h v6 4) (f_X4_seats v6 a1 h)) fun v7 h8 =>
      if v7 = 0 then
        f_X5_dutiesOf_56 r19 a0 a1 a2 a3 a4 a5 h8
      else
        f_X5_dutiesOf_47 r19 a0 a1 a2 a3 a4 a5 v6 h8
noncomputable def f_X5_dutiesOf_19 : Nat → Nat → Int32 → Option Nat → Nat → Int32 → Int32 → zHp → Option (Option Nat × zHp)
  | 0 => fun _ _ _ _ _ _ _ => none
  | n + 1 => fun a0 a1 a2 a3 a4 a5 h => f_X5_dutiesOf_19_body (f_X5_dutiesOf_19 n) a0 a1 a2 a3 a4 a5 h
noncomputable def f_X5_dutiesOf (a0 : Nat) (a1 : Int32) (a2 : Option Nat) (h : zHp) : Option (Option Nat × zHp) :=
  (zgR h a0 5 0).bind fun v1 =>
  (zif (zis h v1 0) (f_X0_clear v1 h)).bind fun h2 =>
  (zgR h2 a0 5 5).bind fun v3 =>
  (zlnR h2 v3 2).bind fun v4 =>
  f_X5_dutiesOf_19 zN a0 a1 a2 v3 v4 0 h2
noncomputable def f_X5_restsHold_89 (h : zHp) : Option (Int32 × zHp) :=
  zbool 0 h
noncomputable def f_X5_restsHold (a0 : Nat) (a1 : Nat) (a2 : Int32) (a3 : Int32) (h : zHp) : Option (Int32 × zHp) :=
  (zgI h a1 0 3).bind fun v1 =>
  if v1 = 0 then
    (zgR h a0 5 1).bind fun v2 =>
    (zld h v2 0 0).bind fun v3 =>
    zb2 (zif (zis h a1 0) (f_X0_everyRowHas a1 v3 24 (zmax 0 ((a2 - 24) + 1)) a3 h)) fun v4 h5 =>
    if v4 = 0 then
      f_X5_restsHold_89 h5
    else
      (zgR h5 a0 5 1).bind fun v6 =>
      (zld h5 v6 0 1).bind fun v7 =>
      zb2 (zif (zis h5 a1 0) (f_X0_everyDayHasLongRest a1 v7 (zmax 0 ((a2 - 24) + 1)) a3 h5)) fun v8 h9 =>
      if v8 = 0 then
        f_X5_restsHold_89 h9
      else
        (zgR h9 a0 5 1).bind fun v10 =>
        (zld h9 v10 0 2).bind fun v11 =>
        zb2 (zif (zis h9 a1 0) (f_X0_everyRowHas a1 v11 168 (zmax 0 ((a2 - 168) + 1)) a3 h9)) fun v12 h13 =>
        if v12 = 0 then
          f_X5_restsHold_89 h13
        else
          zbool 1 h13
  else
    f_X5_restsHold_89 h
noncomputable def f_X5_allRestsHold_2_body (r2 : Nat → Int32 → zHp → Option (Int32 × zHp)) (a0 : Nat) (a1 : Int32) (h : zHp) : Option (Int32 × zHp) :=
  (zgI h a0 5 4).bind fun v1 =>
  if v1 ≤ a1 then
    zbool 1 h
  else
    zb2 (zif (zis h a0 5) (f_X5_dutiesOf a0 a1 none h)) fun w2 h3 =>
    zopt w2 none fun v4 =>
    (zgI h3 v4 0 2).bind fun v5 =>
    zb2 (zif (zis h3 a0 5) (f_X5_restsHold a0 v4 0 v5 h3)) fun v6 h7 =>
    if v6 = 0 then
      zbool 0 h7
    else
      r2 a0 (a1 + 1) h7
noncomputable def f_X5_allRestsHold_2 : Nat → Nat → Int32 → zHp → Option (Int32 × zHp)
  | 0 => fun _ _ _ => none
  | n + 1 => fun a0 a1 h => f_X5_allRestsHold_2_body (f_X5_allRestsHold_2 n) a0 a1 h
noncomputable def f_X5_allRestsHold (a0 : Nat) (h : zHp) : Option (Int32 × zHp) :=
  f_X5_allRestsHold_2 zN a0 0 h
noncomputable def f_X5_reasonAgainst (a0 : Nat) (a1 : Int32) (a2 : Nat) (a3 : Int32) (h : zHp) : Option (Int32 × zHp) :=
  zb2 (zif (zis h a0 5) (f_X5_memberAt a0 a1 h)) fun w1 h2 =>
  zopt w1
    (some (1, h2))
    fun v3 =>
    zb2 (zif (zis h2 a2 4) (f_X4_isOpen a2 h2)) fun v4 h5 =>
    if v4 = 0 then
      some (1, h5)
    else
      (zgI h5 a2 4 2).bind fun v6 =>
      (zgI h5 a0 5 2).bind fun v7 =>
      if v7 ≤ v6 then
        zb2 (zif (zis h5 a2 4) (f_X4_freePlacesOf a2 a3 h5)) fun v8 h9 =>
        if 0 < v8 then
          zb2 (zif (zis h9 v3 3) (f_X3_certificateOf v3 a3 h9)) fun v10 h11 =>
          (zgI h11 a2 4 3).bind fun v12 =>
          if v12 ≤ v10 then
            (zgI h11 a2 4 2).bind fun v13 =>
            (zgI h11 v3 3 1).bind fun v14 =>
            if v14 ≤ v13 then
              zb2 (zif (zis h11 a2 4) (f_X4_seats a2 a1 h11)) fun v15 h16 =>
              if v15 = 0 then
                zb2 (zif (zis h16 a0 5) (f_X5_dutiesOf a0 a1 (some a2) h16)) fun w17 h18 =>
                zopt w17 none fun v19 =>
                (zgI h18 a2 4 2).bind fun v20 =>
                (zgI h18 a2 4 3).bind fun v21 =>
                zb2 (zif (zis h18 a0 5) (f_X5_restsHold a0 v19 (v20 - 1) v21 h18)) fun v22 h23 =>
                if v22 = 0 then
                  some (6, h23)
                else
                  some (0, h23)
              else
                some (5, h16)
            else
              some (4, h11)
          else
            some (3, h11)
        else
          some (2, h9)
      else
        some (1, h5)
noncomputable def f_X5_coverPlace_76 (r15 : Nat → Nat → Int32 → Nat → Int32 → zHp → Option (Int32 × zHp)) (a0 : Nat) (a1 : Nat) (a2 : Int32) (a3 : Nat) (a4 : Int32) (h : zHp) : Option (Int32 × zHp) :=
  r15 a0 a1 a2 a3 (a4 + 1) h
noncomputable def f_X5_coverPlace_15_body (r15 : Nat → Nat → Int32 → Nat → Int32 → zHp → Option (Int32 × zHp)) (a0 : Nat) (a1 : Nat) (a2 : Int32) (a3 : Nat) (a4 : Int32) (h : zHp) : Option (Int32 × zHp) :=
  (zgI h a3 2 1).bind fun v1 =>
  if v1 ≤ a4 then
    zbool 0 h
  else
    zb2 (zif (zis h a3 2) (f_X2_memberOfRank a3 a4 h)) fun v2 h3 =>
    zb2 (zif (zis h3 a0 5) (f_X5_memberAt a0 v2 h3)) fun w4 h5 =>
    zopt w4
      (f_X5_coverPlace_76 r15 a0 a1 a2 a3 a4 h5)
      fun v6 =>
      zb2 (zif (zis h5 a0 5) (f_X5_reasonAgainst a0 v2 a1 a2 h5)) fun v7 h8 =>
      if v7 = 0 then
        (zif (zis h8 a1 4) (f_X4_seat a1 v2 a2 h8)).bind fun h9 =>
        (zgI h9 v6 3 2).bind fun v10 =>
        (zpV h9 v6 3 2 (.int (v10 + 1))).bind fun h11 =>
        zbool 1 h11
      else
        f_X5_coverPlace_76 r15 a0 a1 a2 a3 a4 h8
noncomputable def f_X5_coverPlace_15 : Nat → Nat → Nat → Int32 → Nat → Int32 → zHp → Option (Int32 × zHp)
  | 0 => fun _ _ _ _ _ _ => none
  | n + 1 => fun a0 a1 a2 a3 a4 h => f_X5_coverPlace_15_body (f_X5_coverPlace_15 n) a0 a1 a2 a3 a4 h
noncomputable def f_X5_coverPlace (a0 : Nat) (a1 : Nat) (a2 : Int32) (h : zHp) : Option (Int32 × zHp) :=
  zb2 (zif (zis h a0 5) (f_X5_ladderOf a0 a2 h)) fun w1 h2 =>
  zopt w1
    (zbool 0 h2)
    fun v3 =>
    f_X5_coverPlace_15 zN a0 a1 a2 v3 0 h2
noncomputable def f_X5_coverAllPlaces_13_body (r2 : Nat → Nat → Int32 → zHp → Option (Int32 × zHp)) (r13 : Nat → Nat → Int32 → Int32 → zHp → Option (Int32 × zHp)) (a0 : Nat) (a1 : Nat) (a2 : Int32) (a3 : Int32) (h : zHp) : Option (Int32 × zHp) :=
  if a3 ≤ 0 then
    r2 a0 a1 (a2 + 1) h
  else
    zb2 (zif (zis h a0 5) (f_X5_coverPlace a0 a1 a2 h)) fun v1 h2 =>
    r13 a0 a1 a2 (a3 + (-1)) h2
noncomputable def f_X5_coverAllPlaces_13 (r2 : Nat → Nat → Int32 → zHp → Option (Int32 × zHp)) : Nat → Nat → Nat → Int32 → Int32 → zHp → Option (Int32 × zHp)
  | 0 => fun _ _ _ _ _ => none
  | n + 1 => fun a0 a1 a2 a3 h => f_X5_coverAllPlaces_13_body r2 (f_X5_coverAllPlaces_13 r2 n) a0 a1 a2 a3 h
noncomputable def f_X5_coverAllPlaces_2_body (r2 : Nat → Nat → Int32 → zHp → Option (Int32 × zHp)) (a0 : Nat) (a1 : Nat) (a2 : Int32) (h : zHp) : Option (Int32 × zHp) :=
  if 4 ≤ a2 then
    zb2 (zif (zis h a1 4) (f_X4_freePlaces a1 h)) fun v1 h2 =>
    some (v1, h2)
  else
    zb2 (zif (zis h a1 4) (f_X4_freePlacesOf a1 a2 h)) fun v3 h4 =>
    f_X5_coverAllPlaces_13 r2 zN a0 a1 a2 v3 h4
noncomputable def f_X5_coverAllPlaces_2 : Nat → Nat → Nat → Int32 → zHp → Option (Int32 × zHp)
  | 0 => fun _ _ _ _ => none
  | n + 1 => fun a0 a1 a2 h => f_X5_coverAllPlaces_2_body (f_X5_coverAllPlaces_2 n) a0 a1 a2 h
noncomputable def f_X5_coverAllPlaces (a0 : Nat) (a1 : Nat) (h : zHp) : Option (Int32 × zHp) :=
  f_X5_coverAllPlaces_2 zN a0 a1 0 h
noncomputable def f_X5_fallSick_160 (r120 : Nat → Int32 → Nat → Int32 → Int32 → zHp → Option (Int32 × zHp)) (a0 : Nat) (a4 : Int32) (a5 : Nat) (a6 : Int32) (a7 : Int32) (h : zHp) : Option (Int32 × zHp) :=
  r120 a0 a4 a5 a6 (a7 + 1) h
noncomputable def f_X5_fallSick_120_body (r120 : Nat → Int32 → Nat → Int32 → Int32 → zHp → Option (Int32 × zHp)) (a0 : Nat) (a4 : Int32) (a5 : Nat) (a6 : Int32) (a7 : Int32) (h : zHp) : Option (Int32 × zHp) :=
  if a6 ≤ a7 then
    some (a4, h)
  else
    (zldR h a5 2 a7).bind fun v1 =>
    (zgI h v1 4 6).bind fun v2 =>
    if v2 = (-1) then
      f_X5_fallSick_160 r120 a0 a4 a5 a6 a7 h
    else
      (zgI h v1 4 6).bind fun v3 =>
      zb2 (zif (zis h a0 5) (f_X5_coverPlace a0 v1 v3 h)) fun v4 h5 =>
      if v4 = 0 then
        f_X5_fallSick_160 r120 a0 (a4 + 1) a5 a6 a7 h5
      else
        f_X5_fallSick_160 r120 a0 a4 a5 a6 a7 h5
noncomputable def f_X5_fallSick_120 : Nat → Nat → Int32 → Nat → Int32 → Int32 → zHp → Option (Int32 × zHp)
  | 0 => fun _ _ _ _ _ _ => none
  | n + 1 => fun a0 a4 a5 a6 a7 h => f_X5_fallSick_120_body (f_X5_fallSick_120 n) a0 a4 a5 a6 a7 h
noncomputable def f_X5_fallSick_94 (r36 : Nat → Int32 → Nat → Nat → Int32 → Int32 → zHp → Option (Int32 × zHp)) (a0 : Nat) (a1 : Int32) (a3 : Nat) (a4 : Nat) (a5 : Int32) (a6 : Int32) (s0 : Int32) (s1 : Nat) (h : zHp) : Option (Int32 × zHp) :=
  (zpV h s1 4 6 (.int s0)).bind fun h1 =>
  r36 a0 a1 a3 a4 a5 (a6 + 1) h1
noncomputable def f_X5_fallSick_75 (r36 : Nat → Int32 → Nat → Nat → Int32 → Int32 → zHp → Option (Int32 × zHp)) (a0 : Nat) (a1 : Int32) (a3 : Nat) (a4 : Nat) (a5 : Int32) (a6 : Int32) (a7 : Nat) (s0 : Int32) (h : zHp) : Option (Int32 × zHp) :=
  if s0 = 0 then
    f_X5_fallSick_94 r36 a0 a1 a3 a4 a5 a6 (-1) a7 h
  else
    zb2 (zif (zis h a7 4) (f_X4_unseat a7 a1 h)) fun v1 h2 =>
    f_X5_fallSick_94 r36 a0 a1 a3 a4 a5 a6 v1 a7 h2
noncomputable def f_X5_fallSick_74 (r36 : Nat → Int32 → Nat → Nat → Int32 → Int32 → zHp → Option (Int32 × zHp)) (a0 : Nat) (a1 : Int32) (a3 : Nat) (a4 : Nat) (a5 : Int32) (a6 : Int32) (a7 : Nat) (h : zHp) : Option (Int32 × zHp) :=
  f_X5_fallSick_75 r36 a0 a1 a3 a4 a5 a6 a7 0 h
noncomputable def f_X5_fallSick_36_body (r36 : Nat → Int32 → Nat → Nat → Int32 → Int32 → zHp → Option (Int32 × zHp)) (a0 : Nat) (a1 : Int32) (a3 : Nat) (a4 : Nat) (a5 : Int32) (a6 : Int32) (h : zHp) : Option (Int32 × zHp) :=
  if a5 ≤ a6 then
    (zgR h a0 5 5).bind fun v1 =>
    (zlnR h v1 2).bind fun v2 =>
    f_X5_fallSick_120 zN a0 0 v1 v2 0 h
  else
    (zldR h a4 2 a6).bind fun v3 =>
    zb2 (zif (zis h v3 4) (f_X4_isOpen v3 h)) fun v4 h5 =>
    if v4 = 0 then
      f_X5_fallSick_74 r36 a0 a1 a3 a4 a5 a6 v3 h5
    else
      (zgI h5 v3 4 2).bind fun v6 =>
      (zgI h5 a3 3 1).bind fun v7 =>
      if v7 ≤ v6 then
        f_X5_fallSick_74 r36 a0 a1 a3 a4 a5 a6 v3 h5
      else
        f_X5_fallSick_75 r36 a0 a1 a3 a4 a5 a6 v3 1 h5
noncomputable def f_X5_fallSick_36 : Nat → Nat → Int32 → Nat → Nat → Int32 → Int32 → zHp → Option (Int32 × zHp)
  | 0 => fun _ _ _ _ _ _ _ => none
  | n + 1 => fun a0 a1 a3 a4 a5 a6 h => f_X5_fallSick_36_body (f_X5_fallSick_36 n) a0 a1 a3 a4 a5 a6 h
noncomputable def f_X5_fallSick (a0 : Nat) (a1 : Int32) (a2 : Int32) (h : zHp) : Option (Int32 × zHp) :=
  zb2 (zif (zis h a0 5) (f_X5_memberAt a0 a1 h)) fun w1 h2 =>
  zopt w1
    (some ((-1), h2))
    fun v3 =>
    (zgI h2 a0 5 2).bind fun v4 =>
    (zpV h2 v3 3 1 (.int (v4 + a2))).bind fun h5 =>
    (zgR h5 a0 5 5).bind fun v6 =>
    (zlnR h5 v6 2).bind fun v7 =>
    f_X5_fallSick_36 zN a0 a1 v3 v6 v7 0 h5
noncomputable def f_X5_goOn_58 (r21 : Nat → Nat → Int32 → Int32 → zHp → Option (Int32 × zHp)) (a0 : Nat) (a2 : Nat) (a3 : Int32) (a4 : Int32) (h : zHp) : Option (Int32 × zHp) :=
  r21 a0 a2 a3 (a4 + 1) h
noncomputable def f_X5_goOn_21_body (r21 : Nat → Nat → Int32 → Int32 → zHp → Option (Int32 × zHp)) (a0 : Nat) (a2 : Nat) (a3 : Int32) (a4 : Int32) (h : zHp) : Option (Int32 × zHp) :=
  if a3 ≤ a4 then
    (zgI h a0 5 2).bind fun v1 =>
    some (v1, h)
  else
    (zldR h a2 2 a4).bind fun v2 =>
    zb2 (zif (zis h v2 4) (f_X4_isOpen v2 h)) fun v3 h4 =>
    if v3 = 0 then
      f_X5_goOn_58 r21 a0 a2 a3 a4 h4
    else
      (zgI h4 v2 4 2).bind fun v5 =>
      (zgI h4 a0 5 2).bind fun v6 =>
      if v6 ≤ v5 then
        f_X5_goOn_58 r21 a0 a2 a3 a4 h4
      else
        (zif (zis h4 v2 4) (f_X4_depart v2 h4)).bind fun h7 =>
        f_X5_goOn_58 r21 a0 a2 a3 a4 h7
noncomputable def f_X5_goOn_21 : Nat → Nat → Nat → Int32 → Int32 → zHp → Option (Int32 × zHp)
  | 0 => fun _ _ _ _ _ => none
  | n + 1 => fun a0 a2 a3 a4 h => f_X5_goOn_21_body (f_X5_goOn_21 n) a0 a2 a3 a4 h
noncomputable def f_X5_goOn (a0 : Nat) (a1 : Int32) (h : zHp) : Option (Int32 × zHp) :=
  (zgI h a0 5 2).bind fun v1 =>
  (zpV h a0 5 2 (.int (v1 + a1))).bind fun h2 =>
  (zgR h2 a0 5 5).bind fun v3 =>
  (zlnR h2 v3 2).bind fun v4 =>
  f_X5_goOn_21 zN a0 v3 v4 0 h2
noncomputable def f_X5_placesOf_51 (r16 : Int32 → Int32 → Int32 → Nat → Int32 → Int32 → zHp → Option (Int32 × zHp)) (a1 : Int32) (a2 : Int32) (a3 : Int32) (a4 : Nat) (a5 : Int32) (a6 : Int32) (h : zHp) : Option (Int32 × zHp) :=
  r16 a1 a2 a3 a4 a5 (a6 + 1) h
noncomputable def f_X5_placesOf_16_body (r16 : Int32 → Int32 → Int32 → Nat → Int32 → Int32 → zHp → Option (Int32 × zHp)) (a1 : Int32) (a2 : Int32) (a3 : Int32) (a4 : Nat) (a5 : Int32) (a6 : Int32) (h : zHp) : Option (Int32 × zHp) :=
  if a5 ≤ a6 then
    some (a3, h)
  else
    (zldR h a4 2 a6).bind fun v1 =>
    (zgI h v1 4 5).bind fun v2 =>
    if v2 = a2 then
      zb2 (zif (zis h v1 4) (f_X4_seats v1 a1 h)) fun v3 h4 =>
      if v3 = 0 then
        f_X5_placesOf_51 r16 a1 a2 a3 a4 a5 a6 h4
      else
        f_X5_placesOf_51 r16 a1 a2 (a3 + 1) a4 a5 a6 h4
    else
      f_X5_placesOf_51 r16 a1 a2 a3 a4 a5 a6 h
noncomputable def f_X5_placesOf_16 : Nat → Int32 → Int32 → Int32 → Nat → Int32 → Int32 → zHp → Option (Int32 × zHp)
  | 0 => fun _ _ _ _ _ _ _ => none
  | n + 1 => fun a1 a2 a3 a4 a5 a6 h => f_X5_placesOf_16_body (f_X5_placesOf_16 n) a1 a2 a3 a4 a5 a6 h
noncomputable def f_X5_placesOf (a0 : Nat) (a1 : Int32) (a2 : Int32) (h : zHp) : Option (Int32 × zHp) :=
  (zgR h a0 5 5).bind fun v1 =>
  (zlnR h v1 2).bind fun v2 =>
  f_X5_placesOf_16 zN a1 a2 0 v1 v2 0 h
noncomputable def f_X5_nextSailingOf_46 (r11 : Int32 → Nat → Int32 → Int32 → zHp → Option (Int32 × zHp)) (a1 : Int32) (a2 : Nat) (a3 : Int32) (a4 : Int32) (h : zHp) : Option (Int32 × zHp) :=
  r11 a1 a2 a3 (a4 + 1) h
noncomputable def f_X5_nextSailingOf_11_body (r11 : Int32 → Nat → Int32 → Int32 → zHp → Option (Int32 × zHp)) (a1 : Int32) (a2 : Nat) (a3 : Int32) (a4 : Int32) (h : zHp) : Option (Int32 × zHp) :=
  if a3 ≤ a4 then
    some ((-5), h)
  else
    (zldR h a2 2 a4).bind fun v1 =>
    zb2 (zif (zis h v1 4) (f_X4_isOpen v1 h)) fun v2 h3 =>
    if v2 = 0 then
      f_X5_nextSailingOf_46 r11 a1 a2 a3 a4 h3
    else
      zb2 (zif (zis h3 v1 4) (f_X4_seats v1 a1 h3)) fun v4 h5 =>
      if v4 = 0 then
        f_X5_nextSailingOf_46 r11 a1 a2 a3 a4 h5
      else
        (zgI h5 v1 4 0).bind fun v6 =>
        some (v6, h5)
noncomputable def f_X5_nextSailingOf_11 : Nat → Int32 → Nat → Int32 → Int32 → zHp → Option (Int32 × zHp)
  | 0 => fun _ _ _ _ _ => none
  | n + 1 => fun a1 a2 a3 a4 h => f_X5_nextSailingOf_11_body (f_X5_nextSailingOf_11 n) a1 a2 a3 a4 h
noncomputable def f_X5_nextSailingOf (a0 : Nat) (a1 : Int32) (h : zHp) : Option (Int32 × zHp) :=
  (zgR h a0 5 5).bind fun v1 =>
  (zlnR h v1 2).bind fun v2 =>
  f_X5_nextSailingOf_11 zN a1 v1 v2 0 h
noncomputable def f_X5_sailingsThatAre_39 (r14 : Int32 → Int32 → Nat → Int32 → Int32 → zHp → Option (Int32 × zHp)) (a1 : Int32) (a2 : Int32) (a3 : Nat) (a4 : Int32) (a5 : Int32) (h : zHp) : Option (Int32 × zHp) :=
  r14 a1 a2 a3 a4 (a5 + 1) h
noncomputable def f_X5_sailingsThatAre_14_body (r14 : Int32 → Int32 → Nat → Int32 → Int32 → zHp → Option (Int32 × zHp)) (a1 : Int32) (a2 : Int32) (a3 : Nat) (a4 : Int32) (a5 : Int32) (h : zHp) : Option (Int32 × zHp) :=
  if a4 ≤ a5 then
    some (a2, h)
  else
    (zldR h a3 2 a5).bind fun v1 =>
    (zgI h v1 4 5).bind fun v2 =>
    if v2 = a1 then
      f_X5_sailingsThatAre_39 r14 a1 (a2 + 1) a3 a4 a5 h
    else
      f_X5_sailingsThatAre_39 r14 a1 a2 a3 a4 a5 h
noncomputable def f_X5_sailingsThatAre_14 : Nat → Int32 → Int32 → Nat → Int32 → Int32 → zHp → Option (Int32 × zHp)
  | 0 => fun _ _ _ _ _ _ => none
  | n + 1 => fun a1 a2 a3 a4 a5 h => f_X5_sailingsThatAre_14_body (f_X5_sailingsThatAre_14 n) a1 a2 a3 a4 a5 h
noncomputable def f_X5_sailingsThatAre (a0 : Nat) (a1 : Int32) (h : zHp) : Option (Int32 × zHp) :=
  (zgR h a0 5 5).bind fun v1 =>
  (zlnR h v1 2).bind fun v2 =>
  f_X5_sailingsThatAre_14 zN a1 0 v1 v2 0 h
noncomputable def f_X5_freeOpenPlaces_41 (r13 : Int32 → Nat → Int32 → Int32 → zHp → Option (Int32 × zHp)) (a1 : Int32) (a2 : Nat) (a3 : Int32) (a4 : Int32) (h : zHp) : Option (Int32 × zHp) :=
  r13 a1 a2 a3 (a4 + 1) h
noncomputable def f_X5_freeOpenPlaces_13_body (r13 : Int32 → Nat → Int32 → Int32 → zHp → Option (Int32 × zHp)) (a1 : Int32) (a2 : Nat) (a3 : Int32) (a4 : Int32) (h : zHp) : Option (Int32 × zHp) :=
  if a3 ≤ a4 then
    some (a1, h)
  else
    (zldR h a2 2 a4).bind fun v1 =>
    zb2 (zif (zis h v1 4) (f_X4_isOpen v1 h)) fun v2 h3 =>
    if v2 = 0 then
      f_X5_freeOpenPlaces_41 r13 a1 a2 a3 a4 h3
    else
      zb2 (zif (zis h3 v1 4) (f_X4_freePlaces v1 h3)) fun v4 h5 =>
      f_X5_freeOpenPlaces_41 r13 (a1 + v4) a2 a3 a4 h5
noncomputable def f_X5_freeOpenPlaces_13 : Nat → Int32 → Nat → Int32 → Int32 → zHp → Option (Int32 × zHp)
  | 0 => fun _ _ _ _ _ => none
  | n + 1 => fun a1 a2 a3 a4 h => f_X5_freeOpenPlaces_13_body (f_X5_freeOpenPlaces_13 n) a1 a2 a3 a4 h
noncomputable def f_X5_freeOpenPlaces (a0 : Nat) (h : zHp) : Option (Int32 × zHp) :=
  (zgR h a0 5 5).bind fun v1 =>
  (zlnR h v1 2).bind fun v2 =>
  f_X5_freeOpenPlaces_13 zN 0 v1 v2 0 h
noncomputable def f_X5_takenOpenPlaces_41 (r13 : Int32 → Nat → Int32 → Int32 → zHp → Option (Int32 × zHp)) (a1 : Int32) (a2 : Nat) (a3 : Int32) (a4 : Int32) (h : zHp) : Option (Int32 × zHp) :=
  r13 a1 a2 a3 (a4 + 1) h
noncomputable def f_X5_takenOpenPlaces_13_body (r13 : Int32 → Nat → Int32 → Int32 → zHp → Option (Int32 × zHp)) (a1 : Int32) (a2 : Nat) (a3 : Int32) (a4 : Int32) (h : zHp) : Option (Int32 × zHp) :=
  if a3 ≤ a4 then
    some (a1, h)
  else
    (zldR h a2 2 a4).bind fun v1 =>
    zb2 (zif (zis h v1 4) (f_X4_isOpen v1 h)) fun v2 h3 =>
    if v2 = 0 then
      f_X5_takenOpenPlaces_41 r13 a1 a2 a3 a4 h3
    else
      zb2 (zif (zis h3 v1 4) (f_X4_takenPlaces v1 h3)) fun v4 h5 =>
      f_X5_takenOpenPlaces_41 r13 (a1 + v4) a2 a3 a4 h5
noncomputable def f_X5_takenOpenPlaces_13 : Nat → Int32 → Nat → Int32 → Int32 → zHp → Option (Int32 × zHp)
  | 0 => fun _ _ _ _ _ => none
  | n + 1 => fun a1 a2 a3 a4 h => f_X5_takenOpenPlaces_13_body (f_X5_takenOpenPlaces_13 n) a1 a2 a3 a4 h
noncomputable def f_X5_takenOpenPlaces (a0 : Nat) (h : zHp) : Option (Int32 × zHp) :=
  (zgR h a0 5 5).bind fun v1 =>
  (zlnR h v1 2).bind fun v2 =>
  f_X5_takenOpenPlaces_13 zN 0 v1 v2 0 h
noncomputable def f_X5_membersSickNow_40 (r13 : Nat → Int32 → Nat → Int32 → Int32 → zHp → Option (Int32 × zHp)) (a0 : Nat) (a1 : Int32) (a2 : Nat) (a3 : Int32) (a4 : Int32) (h : zHp) : Option (Int32 × zHp) :=
  r13 a0 a1 a2 a3 (a4 + 1) h
noncomputable def f_X5_membersSickNow_13_body (r13 : Nat → Int32 → Nat → Int32 → Int32 → zHp → Option (Int32 × zHp)) (a0 : Nat) (a1 : Int32) (a2 : Nat) (a3 : Int32) (a4 : Int32) (h : zHp) : Option (Int32 × zHp) :=
  if a3 ≤ a4 then
    some (a1, h)
  else
    (zldR h a2 3 a4).bind fun v1 =>
    (zgI h v1 3 1).bind fun v2 =>
    (zgI h a0 5 2).bind fun v3 =>
    if v2 ≤ v3 then
      f_X5_membersSickNow_40 r13 a0 a1 a2 a3 a4 h
    else
      f_X5_membersSickNow_40 r13 a0 (a1 + 1) a2 a3 a4 h
noncomputable def f_X5_membersSickNow_13 : Nat → Nat → Int32 → Nat → Int32 → Int32 → zHp → Option (Int32 × zHp)
  | 0 => fun _ _ _ _ _ _ => none
  | n + 1 => fun a0 a1 a2 a3 a4 h => f_X5_membersSickNow_13_body (f_X5_membersSickNow_13 n) a0 a1 a2 a3 a4 h
noncomputable def f_X5_membersSickNow (a0 : Nat) (h : zHp) : Option (Int32 × zHp) :=
  (zgR h a0 5 6).bind fun v1 =>
  (zlnR h v1 3).bind fun v2 =>
  f_X5_membersSickNow_13 zN a0 0 v1 v2 0 h
noncomputable def f_X5_allCovers_13_body (r13 : Int32 → Nat → Int32 → Int32 → zHp → Option (Int32 × zHp)) (a1 : Int32) (a2 : Nat) (a3 : Int32) (a4 : Int32) (h : zHp) : Option (Int32 × zHp) :=
  if a3 ≤ a4 then
    some (a1, h)
  else
    (zldR h a2 3 a4).bind fun v1 =>
    (zgI h v1 3 2).bind fun v2 =>
    r13 (a1 + v2) a2 a3 (a4 + 1) h
noncomputable def f_X5_allCovers_13 : Nat → Int32 → Nat → Int32 → Int32 → zHp → Option (Int32 × zHp)
  | 0 => fun _ _ _ _ _ => none
  | n + 1 => fun a1 a2 a3 a4 h => f_X5_allCovers_13_body (f_X5_allCovers_13 n) a1 a2 a3 a4 h
noncomputable def f_X5_allCovers (a0 : Nat) (h : zHp) : Option (Int32 × zHp) :=
  (zgR h a0 5 6).bind fun v1 =>
  (zlnR h v1 3).bind fun v2 =>
  f_X5_allCovers_13 zN 0 v1 v2 0 h
noncomputable def f_X5_hoursBeyond (a0 : Nat) (a1 : Nat) (a2 : Int32) (h : zHp) : Option (Int32 × zHp) :=
  zb2 (zif (zis h a1 0) (f_X0_restIn a1 (a2 * 168) 168 h)) fun v1 h2 =>
  (zgR h2 a0 5 1).bind fun v3 =>
  (zld h2 v3 0 4).bind fun v4 =>
  some ((zmax 0 ((168 - v1) - v4)), h2)
noncomputable def f_X5_allHoursBeyond_22_body (r4 : Nat → Int32 → Int32 → zHp → Option (Int32 × zHp)) (r22 : Nat → Int32 → Int32 → Nat → Int32 → zHp → Option (Int32 × zHp)) (a0 : Nat) (a1 : Int32) (a2 : Int32) (a3 : Nat) (a4 : Int32) (h : zHp) : Option (Int32 × zHp) :=
  if 6 ≤ a4 then
    r4 a0 a1 (a2 + 1) h
  else
    zb2 (zif (zis h a0 5) (f_X5_hoursBeyond a0 a3 a4 h)) fun v1 h2 =>
    r22 a0 (a1 + v1) a2 a3 (a4 + 1) h2
noncomputable def f_X5_allHoursBeyond_22 (r4 : Nat → Int32 → Int32 → zHp → Option (Int32 × zHp)) : Nat → Nat → Int32 → Int32 → Nat → Int32 → zHp → Option (Int32 × zHp)
  | 0 => fun _ _ _ _ _ _ => none
  | n + 1 => fun a0 a1 a2 a3 a4 h => f_X5_allHoursBeyond_22_body r4 (f_X5_allHoursBeyond_22 r4 n) a0 a1 a2 a3 a4 h
noncomputable def f_X5_allHoursBeyond_4_body (r4 : Nat → Int32 → Int32 → zHp → Option (Int32 × zHp)) (a0 : Nat) (a1 : Int32) (a2 : Int32) (h : zHp) : Option (Int32 × zHp) :=
  (zgI h a0 5 4).bind fun v1 =>
  if v1 ≤ a2 then
    some (a1, h)
  else
    zb2 (zif (zis h a0 5) (f_X5_dutiesOf a0 a2 none h)) fun w2 h3 =>
    zopt w2 none fun v4 =>
    f_X5_allHoursBeyond_22 r4 zN a0 a1 a2 v4 0 h3
noncomputable def f_X5_allHoursBeyond_4 : Nat → Nat → Int32 → Int32 → zHp → Option (Int32 × zHp)
  | 0 => fun _ _ _ _ => none
  | n + 1 => fun a0 a1 a2 h => f_X5_allHoursBeyond_4_body (f_X5_allHoursBeyond_4 n) a0 a1 a2 h
noncomputable def f_X5_allHoursBeyond (a0 : Nat) (h : zHp) : Option (Int32 × zHp) :=
  f_X5_allHoursBeyond_4 zN a0 0 0 h
noncomputable def f_X6_init (a0 : Nat) (h : zHp) : Option zHp :=
  znm h.1 fun q1 => znm (zadd h (.inl (1, 60, fun _ => 0))) fun h2 =>
  (zpV h2 a0 6 0 (.ref q1)).bind fun h3 =>
  znm h3.1 fun q4 => znm (zadd h3 (.inl (0, 6, fun _ => 0))) fun h5 =>
  (zpV h5 a0 6 4 (.ref q4)).bind fun h6 =>
  znm h6.1 fun q7 => znm (zadd h6 (.inl (0, 6, fun _ => 0))) fun h8 =>
  (zpV h8 a0 6 5 (.ref q7)).bind fun h9 =>
  znm h9.1 fun q10 => znm (zadd h9 (.inl (0, 6, fun _ => 0))) fun h11 =>
  (zpV h11 a0 6 6 (.ref q10)).bind fun h12 =>
  znm h12.1 fun q13 => znm (zadd h12 (.inl (0, 6, fun _ => 0))) fun h14 =>
  (zpV h14 a0 6 7 (.ref q13)).bind fun h15 =>
  some h15
noncomputable def f_X7_init (a0 : Nat) (h : zHp) : Option zHp :=
  znm h.1 fun q1 => znm (zadd h (.inr (.inr (0, [.null, .int 0, .int 0, .int 0])))) fun h2 =>
  (f_X0_init q1 h2).bind fun h3 =>
  znm h3.1 fun q4 => znm (zadd h3 (.inr (.inr (5, [.null, .null, .int 0, .int 0, .int 0, .null, .null, .null])))) fun h5 =>
  (f_X5_init q4 q1 h5).bind fun h6 =>
  (zpV h6 a0 7 0 (.ref q4)).bind fun h7 =>
  znm h7.1 fun q8 => znm (zadd h7 (.inr (.inr (5, [.null, .null, .int 0, .int 0, .int 0, .null, .null, .null])))) fun h9 =>
  (f_X5_init q8 q1 h9).bind fun h10 =>
  (zpV h10 a0 7 1 (.ref q8)).bind fun h11 =>
  znm h11.1 fun q12 => znm (zadd h11 (.inr (.inr (5, [.null, .null, .int 0, .int 0, .int 0, .null, .null, .null])))) fun h13 =>
  (f_X5_init q12 q1 h13).bind fun h14 =>
  (zpV h14 a0 7 2 (.ref q12)).bind fun h15 =>
  znm h15.1 fun q16 => znm (zadd h15 (.inr (.inr (1, [.null, .int 0])))) fun h17 =>
  (f_X1_init q16 q1 h17).bind fun h18 =>
  (zpV h18 a0 7 3 (.ref q16)).bind fun h19 =>
  znm h19.1 fun q20 => znm (zadd h19 (.inr (.inr (6, [.null, .int 0, .int 0, .int 0, .null, .null, .null, .null])))) fun h21 =>
  (f_X6_init q20 h21).bind fun h22 =>
  (zpV h22 a0 7 4 (.ref q20)).bind fun h23 =>
  (zpV h23 a0 7 5 (.int 0)).bind fun h24 =>
  some h24
noncomputable def f_X7_sailing (a0 : Nat) (a1 : Int32) (a2 : Int32) (a3 : Int32) (a4 : Int32) (h : zHp) : Option (Int32 × zHp) :=
  (zgR h a0 7 0).bind fun v1 =>
  zb2 (zif (zis h v1 5) (f_X5_refusalOf v1 a1 a2 a3 a4 h)) fun v2 h3 =>
  if 0 ≤ v2 then
    (zgR h3 a0 7 3).bind fun v4 =>
    (zgR h3 a0 7 0).bind fun v5 =>
    (zif (zis h3 v4 1) (f_X1_record v4 v5 h3)).bind fun h6 =>
    (zgR h6 a0 7 0).bind fun v7 =>
    zb2 (zif (zis h6 v7 5) (f_X5_addSailing v7 a1 a2 a3 a4 h6)) fun v8 h9 =>
    some (v8, h9)
  else
    some (v2, h3)
noncomputable def f_X7_cancel (a0 : Nat) (a1 : Int32) (h : zHp) : Option (Int32 × zHp) :=
  (zgR h a0 7 0).bind fun v1 =>
  zb2 (zif (zis h v1 5) (f_X5_sailingAt v1 a1 h)) fun w2 h3 =>
  zopt w2
    (some ((-1), h3))
    fun v4 =>
    zb2 (zif (zis h3 v4 4) (f_X4_isOpen v4 h3)) fun v5 h6 =>
    if v5 = 0 then
      some ((-4), h6)
    else
      (zgR h6 a0 7 3).bind fun v7 =>
      (zgR h6 a0 7 0).bind fun v8 =>
      (zif (zis h6 v7 1) (f_X1_record v7 v8 h6)).bind fun h9 =>
      zb2 (zif (zis h9 v4 4) (f_X4_callOff v4 h9)) fun v10 h11 =>
      some (v10, h11)
noncomputable def f_X7_member (a0 : Nat) (a1 : Int32) (a2 : Int32) (h : zHp) : Option (Int32 × zHp) :=
  zb2 (f_X7_isRole a1 h) fun v1 h2 =>
  if v1 = 0 then
    some ((-1), h2)
  else
    zb2 (f_X7_isWithin a2 0 9999 h2) fun v3 h4 =>
    if v3 = 0 then
      some ((-2), h4)
    else
      (zgR h4 a0 7 0).bind fun v5 =>
      (zgI h4 v5 5 4).bind fun v6 =>
      if v6 < 12 then
        (zgR h4 a0 7 3).bind fun v7 =>
        (zgR h4 a0 7 0).bind fun v8 =>
        (zif (zis h4 v7 1) (f_X1_record v7 v8 h4)).bind fun h9 =>
        (zgR h9 a0 7 0).bind fun v10 =>
        zb2 (zif (zis h9 v10 5) (f_X5_addMember v10 a1 a2 h9)) fun v11 h12 =>
        some (v11, h12)
      else
        some ((-3), h4)
noncomputable def f_X7_certify (a0 : Nat) (a1 : Int32) (a2 : Int32) (a3 : Int32) (h : zHp) : Option (Int32 × zHp) :=
  (zgR h a0 7 0).bind fun v1 =>
  zb2 (zif (zis h v1 5) (f_X5_memberAt v1 a1 h)) fun w2 h3 =>
  zopt w2
    (some ((-1), h3))
    fun v4 =>
    zb2 (f_X7_isRole a2 h3) fun v5 h6 =>
    if v5 = 0 then
      some ((-1), h6)
    else
      zb2 (f_X7_isWithin a3 0 9999 h6) fun v7 h8 =>
      if v7 = 0 then
        some ((-2), h8)
      else
        (zgR h8 a0 7 0).bind fun v9 =>
        zb2 (zif (zis h8 v9 5) (f_X5_needsCertificateAfter v9 a1 a2 a3 h8)) fun v10 h11 =>
        if v10 = 0 then
          (zgR h11 a0 7 3).bind fun v12 =>
          (zgR h11 a0 7 0).bind fun v13 =>
          (zif (zis h11 v12 1) (f_X1_record v12 v13 h11)).bind fun h14 =>
          zb2 (zif (zis h14 v4 3) (f_X3_replaceCertificate v4 a2 a3 h14)) fun v15 h16 =>
          some (v15, h16)
        else
          some ((-4), h11)
noncomputable def f_X7_climb (a0 : Nat) (a1 : Int32) (a2 : Int32) (h : zHp) : Option (Int32 × zHp) :=
  (zgR h a0 7 0).bind fun v1 =>
  zb2 (zif (zis h v1 5) (f_X5_ladderOf v1 a2 h)) fun w2 h3 =>
  (zgR h3 a0 7 0).bind fun v4 =>
  zb2 (zif (zis h3 v4 5) (f_X5_memberAt v4 a1 h3)) fun w5 h6 =>
  zopt w5
    (some ((-1), h6))
    fun v7 =>
    zopt w2
      (some ((-1), h6))
      fun v8 =>
      (zgR h6 a0 7 3).bind fun v9 =>
      (zgR h6 a0 7 0).bind fun v10 =>
      (zif (zis h6 v9 1) (f_X1_record v9 v10 h6)).bind fun h11 =>
      zb2 (zif (zis h11 v8 2) (f_X2_putLast v8 a1 h11)) fun v12 h13 =>
      some (v12, h13)
noncomputable def f_X7_leave (a0 : Nat) (a1 : Int32) (a2 : Int32) (h : zHp) : Option (Int32 × zHp) :=
  (zgR h a0 7 0).bind fun v1 =>
  zb2 (zif (zis h v1 5) (f_X5_ladderOf v1 a2 h)) fun w2 h3 =>
  (zgR h3 a0 7 0).bind fun v4 =>
  zb2 (zif (zis h3 v4 5) (f_X5_memberAt v4 a1 h3)) fun w5 h6 =>
  zopt w5
    (some ((-1), h6))
    fun v7 =>
    zopt w2
      (some ((-1), h6))
      fun v8 =>
      zb2 (zif (zis h6 v8 2) (f_X2_has v8 a1 h6)) fun v9 h10 =>
      if v9 = 0 then
        some ((-5), h10)
      else
        (zgR h10 a0 7 3).bind fun v11 =>
        (zgR h10 a0 7 0).bind fun v12 =>
        (zif (zis h10 v11 1) (f_X1_record v11 v12 h10)).bind fun h13 =>
        zb2 (zif (zis h13 v8 2) (f_X2_takeOff v8 a1 h13)) fun v14 h15 =>
        some (v14, h15)
noncomputable def f_X7_sick (a0 : Nat) (a1 : Int32) (a2 : Int32) (h : zHp) : Option (Int32 × zHp) :=
  (zgR h a0 7 0).bind fun v1 =>
  zb2 (zif (zis h v1 5) (f_X5_memberAt v1 a1 h)) fun w2 h3 =>
  zopt w2
    (some ((-1), h3))
    fun v4 =>
    zb2 (f_X7_isWithin a2 1 400 h3) fun v5 h6 =>
    if v5 = 0 then
      some ((-2), h6)
    else
      (zgR h6 a0 7 3).bind fun v7 =>
      (zgR h6 a0 7 0).bind fun v8 =>
      (zif (zis h6 v7 1) (f_X1_record v7 v8 h6)).bind fun h9 =>
      (zgR h9 a0 7 0).bind fun v10 =>
      zb2 (zif (zis h9 v10 5) (f_X5_fallSick v10 a1 a2 h9)) fun v11 h12 =>
      some (v11, h12)
noncomputable def f_X7_well (a0 : Nat) (a1 : Int32) (h : zHp) : Option (Int32 × zHp) :=
  (zgR h a0 7 0).bind fun v1 =>
  zb2 (zif (zis h v1 5) (f_X5_memberAt v1 a1 h)) fun w2 h3 =>
  zopt w2
    (some ((-1), h3))
    fun v4 =>
    (zgI h3 v4 3 1).bind fun v5 =>
    (zgR h3 a0 7 0).bind fun v6 =>
    (zgI h3 v6 5 2).bind fun v7 =>
    if 0 < (v5 - v7) then
      (zgR h3 a0 7 3).bind fun v8 =>
      (zgR h3 a0 7 0).bind fun v9 =>
      (zif (zis h3 v8 1) (f_X1_record v8 v9 h3)).bind fun h10 =>
      (zpV h10 v4 3 1 (.int 0)).bind fun h11 =>
      some ((v5 - v7), h11)
    else
      some ((-5), h3)
noncomputable def f_X7_give (a0 : Nat) (a1 : Int32) (a2 : Int32) (a3 : Int32) (h : zHp) : Option (Int32 × zHp) :=
  (zgR h a0 7 0).bind fun v1 =>
  zb2 (zif (zis h v1 5) (f_X5_sailingAt v1 a2 h)) fun w2 h3 =>
  (zgR h3 a0 7 0).bind fun v4 =>
  zb2 (zif (zis h3 v4 5) (f_X5_memberAt v4 a1 h3)) fun w5 h6 =>
  zopt w5
    (some ((-1), h6))
    fun v7 =>
    zopt w2
      (some ((-1), h6))
      fun v8 =>
      zb2 (f_X7_isRole a3 h6) fun v9 h10 =>
      if v9 = 0 then
        some ((-1), h10)
      else
        (zgR h10 a0 7 0).bind fun v11 =>
        zb2 (zif (zis h10 v11 5) (f_X5_reasonAgainst v11 a1 v8 a3 h10)) fun v12 h13 =>
        if v12 = 0 then
          (zgR h13 a0 7 3).bind fun v14 =>
          (zgR h13 a0 7 0).bind fun v15 =>
          (zif (zis h13 v14 1) (f_X1_record v14 v15 h13)).bind fun h16 =>
          (zif (zis h16 v8 4) (f_X4_seat v8 a1 a3 h16)).bind fun h17 =>
          some (0, h17)
        else
          some (v12, h13)
noncomputable def f_X7_giveUp (a0 : Nat) (a1 : Int32) (a2 : Int32) (h : zHp) : Option (Int32 × zHp) :=
  (zgR h a0 7 0).bind fun v1 =>
  zb2 (zif (zis h v1 5) (f_X5_sailingAt v1 a2 h)) fun w2 h3 =>
  (zgR h3 a0 7 0).bind fun v4 =>
  zb2 (zif (zis h3 v4 5) (f_X5_memberAt v4 a1 h3)) fun w5 h6 =>
  zopt w5
    (some ((-1), h6))
    fun v7 =>
    zopt w2
      (some ((-1), h6))
      fun v8 =>
      zb2 (zif (zis h6 v8 4) (f_X4_isOpen v8 h6)) fun v9 h10 =>
      if v9 = 0 then
        some ((-4), h10)
      else
        zb2 (zif (zis h10 v8 4) (f_X4_seats v8 a1 h10)) fun v11 h12 =>
        if v11 = 0 then
          some ((-5), h12)
        else
          (zgR h12 a0 7 3).bind fun v13 =>
          (zgR h12 a0 7 0).bind fun v14 =>
          (zif (zis h12 v13 1) (f_X1_record v13 v14 h12)).bind fun h15 =>
          zb2 (zif (zis h15 v8 4) (f_X4_unseat v8 a1 h15)) fun v16 h17 =>
          some (v16, h17)
noncomputable def f_X7_fill (a0 : Nat) (a1 : Int32) (h : zHp) : Option (Int32 × zHp) :=
  (zgR h a0 7 0).bind fun v1 =>
  zb2 (zif (zis h v1 5) (f_X5_sailingAt v1 a1 h)) fun w2 h3 =>
  zopt w2
    (some ((-1), h3))
    fun v4 =>
    zb2 (zif (zis h3 v4 4) (f_X4_isOpen v4 h3)) fun v5 h6 =>
    if v5 = 0 then
      some ((-4), h6)
    else
      zb2 (zif (zis h6 v4 4) (f_X4_freePlaces v4 h6)) fun v7 h8 =>
      if v7 = 0 then
        some ((-5), h8)
      else
        (zgR h8 a0 7 3).bind fun v9 =>
        (zgR h8 a0 7 0).bind fun v10 =>
        (zif (zis h8 v9 1) (f_X1_record v9 v10 h8)).bind fun h11 =>
        (zgR h11 a0 7 0).bind fun v12 =>
        zb2 (zif (zis h11 v12 5) (f_X5_coverAllPlaces v12 v4 h11)) fun v13 h14 =>
        some (v13, h14)
noncomputable def f_X7_pass (a0 : Nat) (a1 : Int32) (h : zHp) : Option (Int32 × zHp) :=
  zb2 (f_X7_isWithin a1 1 200 h) fun v1 h2 =>
  if v1 = 0 then
    some ((-2), h2)
  else
    (zgR h2 a0 7 0).bind fun v3 =>
    (zgI h2 v3 5 2).bind fun v4 =>
    if (v4 + a1) ≤ 1000 then
      (zgR h2 a0 7 3).bind fun v5 =>
      (zgR h2 a0 7 0).bind fun v6 =>
      (zif (zis h2 v5 1) (f_X1_record v5 v6 h2)).bind fun h7 =>
      (zgR h7 a0 7 0).bind fun v8 =>
      zb2 (zif (zis h7 v8 5) (f_X5_goOn v8 a1 h7)) fun v9 h10 =>
      some (v9, h10)
    else
      some ((-3), h2)
noncomputable def f_X7_set (a0 : Nat) (a1 : Int32) (a2 : Int32) (h : zHp) : Option (Int32 × zHp) :=
  zb2 (f_X7_isWithin a1 0 4 h) fun v1 h2 =>
  if v1 = 0 then
    some ((-2), h2)
  else
    (ztab 5 zT2 a1).bind fun v3 =>
    zb2 (f_X7_isWithin a2 0 v3 h2) fun v4 h5 =>
    if v4 = 0 then
      some ((-2), h5)
    else
      (zgR h5 a0 7 0).bind fun v6 =>
      (zgR h5 v6 5 1).bind fun v7 =>
      (zld h5 v7 0 a1).bind fun v8 =>
      if a2 = v8 then
        some ((-5), h5)
      else
        (zgR h5 a0 7 2).bind fun v9 =>
        (zgR h5 a0 7 0).bind fun v10 =>
        (zif (zis h5 v9 5) (f_X5_copyFrom v9 v10 h5)).bind fun h11 =>
        (zgR h11 a0 7 2).bind fun v12 =>
        (zgR h11 v12 5 1).bind fun v13 =>
        (zst h11 v13 0 a1 a2).bind fun h14 =>
        (zgR h14 a0 7 2).bind fun v15 =>
        zb2 (zif (zis h14 v15 5) (f_X5_allRestsHold v15 h14)) fun v16 h17 =>
        if v16 = 0 then
          some ((-4), h17)
        else
          (zgR h17 a0 7 3).bind fun v18 =>
          (zgR h17 a0 7 0).bind fun v19 =>
          (zif (zis h17 v18 1) (f_X1_record v18 v19 h17)).bind fun h20 =>
          (zgR h20 a0 7 0).bind fun v21 =>
          (zgR h20 v21 5 1).bind fun v22 =>
          (zst h20 v22 0 a1 a2).bind fun h23 =>
          some (v8, h23)
noncomputable def f_X7_undo (a0 : Nat) (h : zHp) : Option (Int32 × zHp) :=
  (zgR h a0 7 3).bind fun v1 =>
  (zgI h v1 1 1).bind fun v2 =>
  if v2 = 0 then
    some ((-5), h)
  else
    (zgR h a0 7 3).bind fun v3 =>
    (zgR h a0 7 0).bind fun v4 =>
    (zif (zis h v3 1) (f_X1_takeBack v3 v4 h)).bind fun h5 =>
    (zgR h5 a0 7 3).bind fun v6 =>
    (zgI h5 v6 1 1).bind fun v7 =>
    some (v7, h5)
noncomputable def f_X7_sailingOf (a0 : Nat) (a1 : Int32) (a2 : Int32) (h : zHp) : Option (Int32 × zHp) :=
  (zgR h a0 7 0).bind fun v1 =>
  zb2 (zif (zis h v1 5) (f_X5_sailingAt v1 a1 h)) fun w2 h3 =>
  zopt w2
    (some ((-1), h3))
    fun v4 =>
    if a2 = 0 then
      (zgI h3 v4 4 5).bind fun v5 =>
      some (v5, h3)
    else if a2 = 1 then
      (zgI h3 v4 4 1).bind fun v6 =>
      some (v6, h3)
    else if a2 = 2 then
      (zgI h3 v4 4 2).bind fun v7 =>
      some (v7, h3)
    else if a2 = 3 then
      (zgI h3 v4 4 3).bind fun v8 =>
      some (v8, h3)
    else if a2 = 4 then
      (zgI h3 v4 4 4).bind fun v9 =>
      some (v9, h3)
    else if a2 = 5 then
      zb2 (zif (zis h3 v4 4) (f_X4_allPlaces v4 h3)) fun v10 h11 =>
      some (v10, h11)
    else if a2 = 6 then
      zb2 (zif (zis h3 v4 4) (f_X4_freePlaces v4 h3)) fun v12 h13 =>
      some (v12, h13)
    else 
      some ((-2), h3)
noncomputable def f_X7_crew (a0 : Nat) (a1 : Int32) (a2 : Int32) (a3 : Int32) (h : zHp) : Option (Int32 × zHp) :=
  (zgR h a0 7 0).bind fun v1 =>
  zb2 (zif (zis h v1 5) (f_X5_sailingAt v1 a1 h)) fun w2 h3 =>
  zopt w2
    (some ((-1), h3))
    fun v4 =>
    if a2 < 0 then
      some ((-2), h3)
    else
      zb2 (f_X7_isWithin a3 0 2 h3) fun v5 h6 =>
      if v5 = 0 then
        some ((-2), h6)
      else
        zb2 (zif (zis h6 v4 4) (f_X4_memberOfRank v4 a2 h6)) fun v7 h8 =>
        if v7 = (-5) then
          some (v7, h8)
        else
          if a3 = 0 then
            some (v7, h8)
          else
            if a3 = 1 then
              zb2 (zif (zis h8 v4 4) (f_X4_roleOf v4 v7 h8)) fun v15 h16 =>
              some (v15, h16)
            else
              (zgR h8 a0 7 0).bind fun v9 =>
              zb2 (zif (zis h8 v9 5) (f_X5_dutiesOf v9 v7 none h8)) fun w10 h11 =>
              zopt w10 none fun v12 =>
              zb2 (zif (zis h11 v12 0) (f_X0_beginOf v12 v4 h11)) fun v13 h14 =>
              some (v13, h14)
noncomputable def f_X7_memberOf (a0 : Nat) (a1 : Int32) (a2 : Int32) (h : zHp) : Option (Int32 × zHp) :=
  (zgR h a0 7 0).bind fun v1 =>
  zb2 (zif (zis h v1 5) (f_X5_memberAt v1 a1 h)) fun w2 h3 =>
  zopt w2
    (some ((-1), h3))
    fun v4 =>
    zb2 (f_X7_isRole a2 h3) fun v5 h6 =>
    if v5 = 0 then
      if a2 = 4 then
        (zgI h6 v4 3 1).bind fun v7 =>
        (zgR h6 a0 7 0).bind fun v8 =>
        (zgI h6 v8 5 2).bind fun v9 =>
        if v7 ≤ v9 then
          some ((-5), h6)
        else
          (zgI h6 v4 3 1).bind fun v10 =>
          some (v10, h6)
      else if a2 = 5 then
        (zgR h6 a0 7 0).bind fun v11 =>
        zb2 (zif (zis h6 v11 5) (f_X5_placesOf v11 a1 0 h6)) fun v12 h13 =>
        some (v12, h13)
      else if a2 = 6 then
        (zgR h6 a0 7 0).bind fun v14 =>
        zb2 (zif (zis h6 v14 5) (f_X5_placesOf v14 a1 1 h6)) fun v15 h16 =>
        some (v15, h16)
      else if a2 = 7 then
        (zgR h6 a0 7 0).bind fun v17 =>
        zb2 (zif (zis h6 v17 5) (f_X5_dutiesOf v17 a1 none h6)) fun w18 h19 =>
        zopt w18 none fun v20 =>
        (zgI h19 v20 0 1).bind fun v21 =>
        some (v21, h19)
      else if a2 = 8 then
        (zgI h6 v4 3 2).bind fun v22 =>
        some (v22, h6)
      else if a2 = 9 then
        (zgR h6 a0 7 0).bind fun v23 =>
        zb2 (zif (zis h6 v23 5) (f_X5_nextSailingOf v23 a1 h6)) fun v24 h25 =>
        some (v24, h25)
      else 
        some ((-2), h6)
    else
      zb2 (zif (zis h6 v4 3) (f_X3_certificateOf v4 a2 h6)) fun v26 h27 =>
      some (v26, h27)
noncomputable def f_X7_ladder (a0 : Nat) (a1 : Int32) (a2 : Int32) (h : zHp) : Option (Int32 × zHp) :=
  (zgR h a0 7 0).bind fun v1 =>
  zb2 (zif (zis h v1 5) (f_X5_ladderOf v1 a1 h)) fun w2 h3 =>
  zopt w2
    (some ((-1), h3))
    fun v4 =>
    if 0 ≤ a2 then
      zb2 (zif (zis h3 v4 2) (f_X2_memberOfRank v4 a2 h3)) fun v5 h6 =>
      some (v5, h6)
    else
      some ((-2), h3)
noncomputable def f_X7_rest (a0 : Nat) (a1 : Int32) (a2 : Int32) (a3 : Int32) (h : zHp) : Option (Int32 × zHp) :=
  (zgR h a0 7 0).bind fun v1 =>
  zb2 (zif (zis h v1 5) (f_X5_memberAt v1 a1 h)) fun w2 h3 =>
  zopt w2
    (some ((-1), h3))
    fun v4 =>
    zb2 (f_X7_isWithin a2 0 1000 h3) fun v5 h6 =>
    if v5 = 0 then
      some ((-2), h6)
    else
      zb2 (f_X7_isWithin a3 1 168 h6) fun v7 h8 =>
      if v7 = 0 then
        some ((-2), h8)
      else
        (zgR h8 a0 7 0).bind fun v9 =>
        zb2 (zif (zis h8 v9 5) (f_X5_dutiesOf v9 a1 none h8)) fun w10 h11 =>
        zopt w10 none fun v12 =>
        zb2 (zif (zis h11 v12 0) (f_X0_restIn v12 a2 a3 h11)) fun v13 h14 =>
        some (v13, h14)
noncomputable def f_X7_leastRest (a0 : Nat) (a1 : Int32) (a2 : Int32) (h : zHp) : Option (Int32 × zHp) :=
  (zgR h a0 7 0).bind fun v1 =>
  zb2 (zif (zis h v1 5) (f_X5_memberAt v1 a1 h)) fun w2 h3 =>
  zopt w2
    (some ((-1), h3))
    fun v4 =>
    zb2 (f_X7_isWithin a2 0 2 h3) fun v5 h6 =>
    if v5 = 0 then
      some ((-2), h6)
    else
      (zgR h6 a0 7 0).bind fun v7 =>
      zb2 (zif (zis h6 v7 5) (f_X5_dutiesOf v7 a1 none h6)) fun w8 h9 =>
      zopt w8 none fun v10 =>
      if a2 = 2 then
        zb2 (zif (zis h9 v10 0) (f_X0_leastLongRest v10 h9)) fun v15 h16 =>
        some (v15, h16)
      else
        zb2 (zif (zis h9 v10 0) (f_X0_firstHourOfLeastRest v10 h9)) fun v11 h12 =>
        if a2 = 1 then
          some (v11, h12)
        else
          zb2 (zif (zis h12 v10 0) (f_X0_restIn v10 v11 24 h12)) fun v13 h14 =>
          some (v13, h14)
noncomputable def f_X7_overtime (a0 : Nat) (a1 : Int32) (a2 : Int32) (h : zHp) : Option (Int32 × zHp) :=
  (zgR h a0 7 0).bind fun v1 =>
  zb2 (zif (zis h v1 5) (f_X5_memberAt v1 a1 h)) fun w2 h3 =>
  zopt w2
    (some ((-1), h3))
    fun v4 =>
    zb2 (f_X7_isWithin a2 0 5 h3) fun v5 h6 =>
    if v5 = 0 then
      some ((-1), h6)
    else
      (zgR h6 a0 7 0).bind fun v7 =>
      (zgR h6 a0 7 0).bind fun v8 =>
      zb2 (zif (zis h6 v8 5) (f_X5_dutiesOf v8 a1 none h6)) fun w9 h10 =>
      zopt w9 none fun v11 =>
      zb2 (zif (zis h10 v7 5) (f_X5_hoursBeyond v7 v11 a2 h10)) fun v12 h13 =>
      some (v12, h13)
noncomputable def f_X7_count (a0 : Nat) (a1 : Int32) (h : zHp) : Option (Int32 × zHp) :=
  zb2 (f_X7_isWithin a1 13 17 h) fun v1 h2 =>
  if v1 = 0 then
    if a1 = 0 then
      (zgR h2 a0 7 0).bind fun v3 =>
      (zgI h2 v3 5 2).bind fun v4 =>
      some (v4, h2)
    else if a1 = 1 then
      (zgR h2 a0 7 0).bind fun v5 =>
      (zgI h2 v5 5 3).bind fun v6 =>
      some (v6, h2)
    else if a1 = 2 then
      (zgR h2 a0 7 0).bind fun v7 =>
      zb2 (zif (zis h2 v7 5) (f_X5_sailingsThatAre v7 0 h2)) fun v8 h9 =>
      some (v8, h9)
    else if a1 = 3 then
      (zgR h2 a0 7 0).bind fun v10 =>
      zb2 (zif (zis h2 v10 5) (f_X5_sailingsThatAre v10 1 h2)) fun v11 h12 =>
      some (v11, h12)
    else if a1 = 4 then
      (zgR h2 a0 7 0).bind fun v13 =>
      zb2 (zif (zis h2 v13 5) (f_X5_sailingsThatAre v13 2 h2)) fun v14 h15 =>
      some (v14, h15)
    else if a1 = 5 then
      (zgR h2 a0 7 0).bind fun v16 =>
      (zgI h2 v16 5 4).bind fun v17 =>
      some (v17, h2)
    else if a1 = 6 then
      (zgR h2 a0 7 0).bind fun v18 =>
      zb2 (zif (zis h2 v18 5) (f_X5_membersSickNow v18 h2)) fun v19 h20 =>
      some (v19, h20)
    else if a1 = 7 then
      (zgR h2 a0 7 0).bind fun v21 =>
      zb2 (zif (zis h2 v21 5) (f_X5_freeOpenPlaces v21 h2)) fun v22 h23 =>
      some (v22, h23)
    else if a1 = 8 then
      (zgR h2 a0 7 0).bind fun v24 =>
      zb2 (zif (zis h2 v24 5) (f_X5_takenOpenPlaces v24 h2)) fun v25 h26 =>
      some (v25, h26)
    else if a1 = 9 then
      (zgR h2 a0 7 0).bind fun v27 =>
      zb2 (zif (zis h2 v27 5) (f_X5_allCovers v27 h2)) fun v28 h29 =>
      some (v28, h29)
    else if a1 = 10 then
      (zgR h2 a0 7 0).bind fun v30 =>
      zb2 (zif (zis h2 v30 5) (f_X5_allHoursBeyond v30 h2)) fun v31 h32 =>
      some (v31, h32)
    else if a1 = 11 then
      (zgR h2 a0 7 3).bind fun v33 =>
      (zgI h2 v33 1 1).bind fun v34 =>
      some (v34, h2)
    else if a1 = 12 then
      (zgR h2 a0 7 4).bind fun v35 =>
      (zgI h2 v35 6 1).bind fun v36 =>
      some (v36, h2)
    else 
      some ((-2), h2)
  else
    (zgR h2 a0 7 0).bind fun v37 =>
    (zgR h2 v37 5 1).bind fun v38 =>
    (zld h2 v38 0 (a1 - 13)).bind fun v39 =>
    some (v39, h2)
noncomputable def f_X7_why (a0 : Nat) (a1 : Int32) (a2 : Int32) (a3 : Int32) (h : zHp) : Option (Int32 × zHp) :=
  (zgR h a0 7 0).bind fun v1 =>
  zb2 (zif (zis h v1 5) (f_X5_sailingAt v1 a2 h)) fun w2 h3 =>
  (zgR h3 a0 7 0).bind fun v4 =>
  zb2 (zif (zis h3 v4 5) (f_X5_memberAt v4 a1 h3)) fun w5 h6 =>
  zopt w5
    (some ((-1), h6))
    fun v7 =>
    zopt w2
      (some ((-1), h6))
      fun v8 =>
      zb2 (f_X7_isRole a3 h6) fun v9 h10 =>
      if v9 = 0 then
        some ((-1), h10)
      else
        (zgR h10 a0 7 0).bind fun v11 =>
        zb2 (zif (zis h10 v11 5) (f_X5_reasonAgainst v11 a1 v8 a3 h10)) fun v12 h13 =>
        some (v12, h13)
noncomputable def f_L_low (a0 : Int32) (a1 : Int32) (h : zHp) : Option (Int32 × zHp) :=
  (zrem (a0 &&& 2147483647) a1).bind fun v1 =>
  some (v1, h)
noncomputable def f_L_tell_130_body (r130 : Nat → Nat → Int32 → zHp → Option (Option Nat × zHp)) (a0 : Nat) (a1 : Nat) (a2 : Int32) (h : zHp) : Option (Option Nat × zHp) :=
  if 6 ≤ a2 then
    some ((some a1), h)
  else
    zb2 (zif (zis h a0 7) (f_X7_memberOf a0 a2 4 h)) fun v1 h2 =>
    (zst h2 a1 0 (45 + (3 * a2)) v1).bind fun h3 =>
    zb2 (zif (zis h3 a0 7) (f_X7_memberOf a0 a2 5 h3)) fun v4 h5 =>
    zb2 (zif (zis h5 a0 7) (f_X7_memberOf a0 a2 8 h5)) fun v6 h7 =>
    (zst h7 a1 0 (46 + (3 * a2)) ((100 * v4) + v6)).bind fun h8 =>
    (zrem a2 4).bind fun v9 =>
    (zdiv a2 4).bind fun v10 =>
    zb2 (zif (zis h8 a0 7) (f_X7_ladder a0 v9 v10 h8)) fun v11 h12 =>
    (zst h12 a1 0 (47 + (3 * a2)) v11).bind fun h13 =>
    r130 a0 a1 (a2 + 1) h13
noncomputable def f_L_tell_130 : Nat → Nat → Nat → Int32 → zHp → Option (Option Nat × zHp)
  | 0 => fun _ _ _ _ => none
  | n + 1 => fun a0 a1 a2 h => f_L_tell_130_body (f_L_tell_130 n) a0 a1 a2 h
noncomputable def f_L_tell_56_body (r56 : Nat → Nat → Int32 → zHp → Option (Option Nat × zHp)) (a0 : Nat) (a1 : Nat) (a2 : Int32) (h : zHp) : Option (Option Nat × zHp) :=
  if 15 ≤ a2 then
    f_L_tell_130 zN a0 a1 0 h
  else
    zb2 (zif (zis h a0 7) (f_X7_sailingOf a0 a2 0 h)) fun v1 h2 =>
    zb2 (zif (zis h2 a0 7) (f_X7_sailingOf a0 a2 6 h2)) fun v3 h4 =>
    zb2 (zif (zis h4 a0 7) (f_X7_sailingOf a0 a2 3 h4)) fun v5 h6 =>
    (zst h6 a1 0 (15 + a2) (((10000 * v1) + (1000 * v3)) + v5)).bind fun h7 =>
    zb2 (zif (zis h7 a0 7) (f_X7_crew a0 a2 0 0 h7)) fun v8 h9 =>
    zb2 (zif (zis h9 a0 7) (f_X7_crew a0 a2 1 0 h9)) fun v10 h11 =>
    (zst h11 a1 0 (30 + a2) ((1000 * v8) + v10)).bind fun h12 =>
    r56 a0 a1 (a2 + 1) h12
noncomputable def f_L_tell_56 : Nat → Nat → Nat → Int32 → zHp → Option (Option Nat × zHp)
  | 0 => fun _ _ _ _ => none
  | n + 1 => fun a0 a1 a2 h => f_L_tell_56_body (f_L_tell_56 n) a0 a1 a2 h
noncomputable def f_L_tell_29_body (r29 : Nat → Nat → Int32 → zHp → Option (Option Nat × zHp)) (a0 : Nat) (a1 : Nat) (a2 : Int32) (h : zHp) : Option (Option Nat × zHp) :=
  if 5 ≤ a2 then
    f_L_tell_56 zN a0 a1 0 h
  else
    zb2 (zif (zis h a0 7) (f_X7_count a0 (13 + a2) h)) fun v1 h2 =>
    (zst h2 a1 0 (10 + a2) v1).bind fun h3 =>
    r29 a0 a1 (a2 + 1) h3
noncomputable def f_L_tell_29 : Nat → Nat → Nat → Int32 → zHp → Option (Option Nat × zHp)
  | 0 => fun _ _ _ _ => none
  | n + 1 => fun a0 a1 a2 h => f_L_tell_29_body (f_L_tell_29 n) a0 a1 a2 h
noncomputable def f_L_tell_7_body (r7 : Nat → Nat → Int32 → zHp → Option (Option Nat × zHp)) (a0 : Nat) (a1 : Nat) (a2 : Int32) (h : zHp) : Option (Option Nat × zHp) :=
  if 10 ≤ a2 then
    f_L_tell_29 zN a0 a1 0 h
  else
    zb2 (zif (zis h a0 7) (f_X7_count a0 a2 h)) fun v1 h2 =>
    (zst h2 a1 0 a2 v1).bind fun h3 =>
    r7 a0 a1 (a2 + 1) h3
noncomputable def f_L_tell_7 : Nat → Nat → Nat → Int32 → zHp → Option (Option Nat × zHp)
  | 0 => fun _ _ _ _ => none
  | n + 1 => fun a0 a1 a2 h => f_L_tell_7_body (f_L_tell_7 n) a0 a1 a2 h
noncomputable def f_L_tell (a0 : Nat) (h : zHp) : Option (Option Nat × zHp) :=
  znm h.1 fun q1 => znm (zadd h (.inl (0, 64, fun _ => 0))) fun h2 =>
  f_L_tell_7 zN a0 q1 0 h2
noncomputable def f_L_same_2_body (r2 : Nat → Nat → Int32 → zHp → Option (Int32 × zHp)) (a0 : Nat) (a1 : Nat) (a2 : Int32) (h : zHp) : Option (Int32 × zHp) :=
  if 63 ≤ a2 then
    zbool 1 h
  else
    (zld h a0 0 a2).bind fun v1 =>
    (zld h a1 0 a2).bind fun v2 =>
    if v1 = v2 then
      r2 a0 a1 (a2 + 1) h
    else
      zbool 0 h
noncomputable def f_L_same_2 : Nat → Nat → Nat → Int32 → zHp → Option (Int32 × zHp)
  | 0 => fun _ _ _ _ => none
  | n + 1 => fun a0 a1 a2 h => f_L_same_2_body (f_L_same_2 n) a0 a1 a2 h
noncomputable def f_L_same (a0 : Nat) (a1 : Nat) (h : zHp) : Option (Int32 × zHp) :=
  f_L_same_2 zN a0 a1 0 h
noncomputable def f_L_sailings_362 (h : zHp) : Option (Int32 × zHp) :=
  zbool 0 h
noncomputable def f_L_sailings_305 (r6 : Nat → Int32 → Int32 → Int32 → zHp → Option (Int32 × zHp)) (a0 : Nat) (a1 : Int32) (a3 : Int32) (s0 : Int32) (s1 : Int32) (h : zHp) : Option (Int32 × zHp) :=
  r6 a0 a1 (s1 + s0) (a3 + 1) h
noncomputable def f_L_sailings_291 (r6 : Nat → Int32 → Int32 → Int32 → zHp → Option (Int32 × zHp)) (a0 : Nat) (a2 : Int32) (a3 : Int32) (a4 : Int32) (a6 : Int32) (s0 : Int32) (s1 : Int32) (h : zHp) : Option (Int32 × zHp) :=
  if a4 = 0 then
    f_L_sailings_305 r6 a0 (s1 + s0) a3 a6 a2 h
  else
    f_L_sailings_305 r6 a0 (s1 + s0) a3 0 a2 h
noncomputable def f_L_sailings_276 (r6 : Nat → Int32 → Int32 → Int32 → zHp → Option (Int32 × zHp)) (a0 : Nat) (a1 : Int32) (a2 : Int32) (a3 : Int32) (a4 : Int32) (a5 : Int32) (a6 : Int32) (h : zHp) : Option (Int32 × zHp) :=
  if a4 = 0 then
    f_L_sailings_291 r6 a0 a2 a3 a4 a6 (a5 - a6) a1 h
  else
    f_L_sailings_291 r6 a0 a2 a3 a4 a6 0 a1 h
noncomputable def f_L_sailings_255 (r6 : Nat → Int32 → Int32 → Int32 → zHp → Option (Int32 × zHp)) (a0 : Nat) (a1 : Int32) (a2 : Int32) (a3 : Int32) (a4 : Int32) (a5 : Int32) (a6 : Int32) (h : zHp) : Option (Int32 × zHp) :=
  if a4 = 0 then
    zb2 (zif (zis h a0 7) (f_X7_sailingOf a0 a3 2 h)) fun v1 h2 =>
    zb2 (zif (zis h2 a0 7) (f_X7_count a0 0 h2)) fun v3 h4 =>
    if v3 ≤ v1 then
      f_L_sailings_276 r6 a0 a1 a2 a3 a4 a5 a6 h4
    else
      zbool 0 h4
  else
    f_L_sailings_276 r6 a0 a1 a2 a3 a4 a5 a6 h
noncomputable def f_L_sailings_244 (r6 : Nat → Int32 → Int32 → Int32 → zHp → Option (Int32 × zHp)) (a0 : Nat) (a1 : Int32) (a2 : Int32) (a3 : Int32) (a4 : Int32) (a5 : Int32) (a6 : Int32) (h : zHp) : Option (Int32 × zHp) :=
  if a4 = 2 then
    if a6 = 0 then
      f_L_sailings_255 r6 a0 a1 a2 a3 a4 a5 a6 h
    else
      zbool 0 h
  else
    f_L_sailings_255 r6 a0 a1 a2 a3 a4 a5 a6 h
noncomputable def f_L_sailings_203 (r6 : Nat → Int32 → Int32 → Int32 → zHp → Option (Int32 × zHp)) (r34 : Nat → Int32 → Int32 → Int32 → Int32 → Int32 → Int32 → zHp → Option (Int32 × zHp)) (a0 : Nat) (a1 : Int32) (a2 : Int32) (a3 : Int32) (a4 : Int32) (a5 : Int32) (a6 : Int32) (a9 : Int32) (h : zHp) : Option (Int32 × zHp) :=
  if 0 ≤ a9 then
    r34 a0 a1 a2 a3 a4 a5 (a6 + 1) h
  else
    zbool 0 h
noncomputable def f_L_sailings_169 (r6 : Nat → Int32 → Int32 → Int32 → zHp → Option (Int32 × zHp)) (r34 : Nat → Int32 → Int32 → Int32 → Int32 → Int32 → Int32 → zHp → Option (Int32 × zHp)) (a0 : Nat) (a1 : Int32) (a2 : Int32) (a3 : Int32) (a4 : Int32) (a5 : Int32) (a6 : Int32) (h : zHp) : Option (Int32 × zHp) :=
  zb2 (zif (zis h a0 7) (f_X7_crew a0 a3 a6 2 h)) fun v1 h2 =>
  zb2 (zif (zis h2 a0 7) (f_X7_sailingOf a0 a3 2 h2)) fun v3 h4 =>
  if v1 = v3 then
    f_L_sailings_203 r6 r34 a0 a1 a2 a3 a4 a5 a6 v1 h4
  else
    zb2 (zif (zis h4 a0 7) (f_X7_sailingOf a0 a3 2 h4)) fun v5 h6 =>
    if v1 = (v5 - 1) then
      f_L_sailings_203 r6 r34 a0 a1 a2 a3 a4 a5 a6 v1 h6
    else
      zbool 0 h6
noncomputable def f_L_sailings_117 (r6 : Nat → Int32 → Int32 → Int32 → zHp → Option (Int32 × zHp)) (r34 : Nat → Int32 → Int32 → Int32 → Int32 → Int32 → Int32 → zHp → Option (Int32 × zHp)) (a0 : Nat) (a1 : Int32) (a2 : Int32) (a3 : Int32) (a4 : Int32) (a5 : Int32) (a6 : Int32) (a7 : Int32) (a8 : Int32) (h : zHp) : Option (Int32 × zHp) :=
  if a4 = 0 then
    zb2 (zif (zis h a0 7) (f_X7_memberOf a0 a7 a8 h)) fun v1 h2 =>
    zb2 (zif (zis h2 a0 7) (f_X7_sailingOf a0 a3 3 h2)) fun v3 h4 =>
    if v1 < v3 then
      zbool 0 h4
    else
      zb2 (zif (zis h4 a0 7) (f_X7_memberOf a0 a7 4 h4)) fun v5 h6 =>
      zb2 (zif (zis h6 a0 7) (f_X7_sailingOf a0 a3 2 h6)) fun v7 h8 =>
      if v7 < v5 then
        zbool 0 h8
      else
        zb2 (zif (zis h8 a0 7) (f_X7_why a0 a7 a3 a8 h8)) fun v9 h10 =>
        if v9 = 0 then
          zbool 0 h10
        else
          f_L_sailings_169 r6 r34 a0 a1 a2 a3 a4 a5 a6 h10
  else
    f_L_sailings_169 r6 r34 a0 a1 a2 a3 a4 a5 a6 h
noncomputable def f_L_sailings_34_body (r6 : Nat → Int32 → Int32 → Int32 → zHp → Option (Int32 × zHp)) (r34 : Nat → Int32 → Int32 → Int32 → Int32 → Int32 → Int32 → zHp → Option (Int32 × zHp)) (a0 : Nat) (a1 : Int32) (a2 : Int32) (a3 : Int32) (a4 : Int32) (a5 : Int32) (a6 : Int32) (h : zHp) : Option (Int32 × zHp) :=
  zb2 (zif (zis h a0 7) (f_X7_crew a0 a3 a6 0 h)) fun v1 h2 =>
  if v1 < 0 then
    zb2 (zif (zis h2 a0 7) (f_X7_sailingOf a0 a3 6 h2)) fun v3 h4 =>
    if v3 = (a5 - a6) then
      if a4 = 1 then
        if a6 = a5 then
          f_L_sailings_244 r6 a0 a1 a2 a3 a4 a5 a6 h4
        else
          zbool 0 h4
      else
        f_L_sailings_244 r6 a0 a1 a2 a3 a4 a5 a6 h4
    else
      zbool 0 h4
  else
    zb2 (zif (zis h2 a0 7) (f_X7_crew a0 a3 a6 0 h2)) fun v5 h6 =>
    zb2 (zif (zis h6 a0 7) (f_X7_crew a0 a3 a6 1 h6)) fun v7 h8 =>
    if a6 ≤ 0 then
      f_L_sailings_117 r6 r34 a0 a1 a2 a3 a4 a5 a6 v5 v7 h8
    else
      zb2 (zif (zis h8 a0 7) (f_X7_crew a0 a3 (a6 - 1) 1 h8)) fun v9 h10 =>
      if v7 < v9 then
        zbool 0 h10
      else
        zb2 (zif (zis h10 a0 7) (f_X7_crew a0 a3 (a6 - 1) 1 h10)) fun v11 h12 =>
        if v11 = v7 then
          zb2 (zif (zis h12 a0 7) (f_X7_crew a0 a3 (a6 - 1) 0 h12)) fun v13 h14 =>
          if v13 < v5 then
            f_L_sailings_117 r6 r34 a0 a1 a2 a3 a4 a5 a6 v5 v7 h14
          else
            zbool 0 h14
        else
          f_L_sailings_117 r6 r34 a0 a1 a2 a3 a4 a5 a6 v5 v7 h12
noncomputable def f_L_sailings_34 (r6 : Nat → Int32 → Int32 → Int32 → zHp → Option (Int32 × zHp)) : Nat → Nat → Int32 → Int32 → Int32 → Int32 → Int32 → Int32 → zHp → Option (Int32 × zHp)
  | 0 => fun _ _ _ _ _ _ _ _ => none
  | n + 1 => fun a0 a1 a2 a3 a4 a5 a6 h => f_L_sailings_34_body r6 (f_L_sailings_34 r6 n) a0 a1 a2 a3 a4 a5 a6 h
noncomputable def f_L_sailings_6_body (r6 : Nat → Int32 → Int32 → Int32 → zHp → Option (Int32 × zHp)) (a0 : Nat) (a1 : Int32) (a2 : Int32) (a3 : Int32) (h : zHp) : Option (Int32 × zHp) :=
  zb2 (zif (zis h a0 7) (f_X7_count a0 1 h)) fun v1 h2 =>
  if v1 ≤ a3 then
    zb2 (zif (zis h2 a0 7) (f_X7_count a0 7 h2)) fun v3 h4 =>
    if a1 = v3 then
      zb2 (zif (zis h4 a0 7) (f_X7_count a0 8 h4)) fun v5 h6 =>
      if a2 = v5 then
        zb2 (zif (zis h6 a0 7) (f_X7_count a0 2 h6)) fun v7 h8 =>
        zb2 (zif (zis h8 a0 7) (f_X7_count a0 3 h8)) fun v9 h10 =>
        zb2 (zif (zis h10 a0 7) (f_X7_count a0 4 h10)) fun v11 h12 =>
        zb2 (zif (zis h12 a0 7) (f_X7_count a0 1 h12)) fun v13 h14 =>
        if ((v7 + v9) + v11) = v13 then
          zbool 1 h14
        else
          f_L_sailings_362 h14
      else
        f_L_sailings_362 h6
    else
      f_L_sailings_362 h4
  else
    zb2 (zif (zis h2 a0 7) (f_X7_sailingOf a0 a3 0 h2)) fun v15 h16 =>
    zb2 (zif (zis h16 a0 7) (f_X7_sailingOf a0 a3 5 h16)) fun v17 h18 =>
    f_L_sailings_34 r6 zN a0 a1 a2 a3 v15 v17 0 h18
noncomputable def f_L_sailings_6 : Nat → Nat → Int32 → Int32 → Int32 → zHp → Option (Int32 × zHp)
  | 0 => fun _ _ _ _ _ => none
  | n + 1 => fun a0 a1 a2 a3 h => f_L_sailings_6_body (f_L_sailings_6 n) a0 a1 a2 a3 h
noncomputable def f_L_sailings (a0 : Nat) (h : zHp) : Option (Int32 × zHp) :=
  f_L_sailings_6 zN a0 0 0 0 h
noncomputable def f_L_members_340 (h : zHp) : Option (Int32 × zHp) :=
  zbool 0 h
noncomputable def f_L_members_300 (r9 : Nat → Int32 → Int32 → Int32 → Int32 → zHp → Option (Int32 × zHp)) (a0 : Nat) (a1 : Int32) (a2 : Int32) (a3 : Int32) (a4 : Int32) (h : zHp) : Option (Int32 × zHp) :=
  r9 a0 a1 a2 a3 (a4 + 1) h
noncomputable def f_L_members_280 (r9 : Nat → Int32 → Int32 → Int32 → Int32 → zHp → Option (Int32 × zHp)) (a0 : Nat) (a1 : Int32) (a2 : Int32) (a3 : Int32) (a4 : Int32) (a7 : Int32) (s0 : Int32) (s1 : Int32) (h : zHp) : Option (Int32 × zHp) :=
  if s1 = s0 then
    if a7 < 0 then
      f_L_members_300 r9 a0 a1 a2 a3 a4 h
    else
      zb2 (zif (zis h a0 7) (f_X7_sailingOf a0 a7 0 h)) fun v1 h2 =>
      if v1 = 0 then
        f_L_members_300 r9 a0 a1 a2 a3 a4 h2
      else
        zbool 0 h2
  else
    zbool 0 h
noncomputable def f_L_members_265 (r9 : Nat → Int32 → Int32 → Int32 → Int32 → zHp → Option (Int32 × zHp)) (a0 : Nat) (a1 : Int32) (a2 : Int32) (a3 : Int32) (a4 : Int32) (a7 : Int32) (s0 : Int32) (h : zHp) : Option (Int32 × zHp) :=
  zb2 (zif (zis h a0 7) (f_X7_memberOf a0 a4 5 h)) fun v1 h2 =>
  if v1 ≤ 0 then
    f_L_members_280 r9 a0 a1 a2 a3 a4 a7 0 s0 h2
  else
    f_L_members_280 r9 a0 a1 a2 a3 a4 a7 1 s0 h2
noncomputable def f_L_members_143 (r9 : Nat → Int32 → Int32 → Int32 → Int32 → zHp → Option (Int32 × zHp)) (a0 : Nat) (a2 : Int32) (a3 : Int32) (a4 : Int32) (a5 : Int32) (a6 : Int32) (s0 : Int32) (s1 : Int32) (h : zHp) : Option (Int32 × zHp) :=
  zb2 (zif (zis h a0 7) (f_X7_memberOf a0 a4 8 h)) fun v1 h2 =>
  zb2 (zif (zis h2 a0 7) (f_X7_memberOf a0 a4 9 h2)) fun v3 h4 =>
  if a6 = a5 then
    zb2 (zif (zis h4 a0 7) (f_X7_leastRest a0 a4 0 h4)) fun v5 h6 =>
    zb2 (zif (zis h6 a0 7) (f_X7_count a0 13 h6)) fun v7 h8 =>
    if v5 < v7 then
      zbool 0 h8
    else
      zb2 (zif (zis h8 a0 7) (f_X7_leastRest a0 a4 2 h8)) fun v9 h10 =>
      zb2 (zif (zis h10 a0 7) (f_X7_count a0 14 h10)) fun v11 h12 =>
      if v9 < v11 then
        zbool 0 h12
      else
        zb2 (zif (zis h12 a0 7) (f_X7_rest a0 a4 0 168 h12)) fun v13 h14 =>
        zb2 (zif (zis h14 a0 7) (f_X7_count a0 15 h14)) fun v15 h16 =>
        if v15 ≤ v13 then
          zb2 (zif (zis h16 a0 7) (f_X7_leastRest a0 a4 1 h16)) fun v17 h18 =>
          zb2 (zif (zis h18 a0 7) (f_X7_rest a0 a4 v17 24 h18)) fun v19 h20 =>
          zb2 (zif (zis h20 a0 7) (f_X7_leastRest a0 a4 0 h20)) fun v21 h22 =>
          if v19 = v21 then
            if v3 < 0 then
              f_L_members_265 r9 a0 (s1 + s0) (a2 + v1) a3 a4 v3 0 h22
            else
              f_L_members_265 r9 a0 (s1 + s0) (a2 + v1) a3 a4 v3 1 h22
          else
            zbool 0 h22
        else
          zbool 0 h16
  else
    zbool 0 h4
noncomputable def f_L_members_94 (r9 : Nat → Int32 → Int32 → Int32 → Int32 → zHp → Option (Int32 × zHp)) (r35 : Nat → Int32 → Int32 → Int32 → Int32 → Int32 → Int32 → Int32 → zHp → Option (Int32 × zHp)) (a0 : Nat) (a1 : Int32) (a2 : Int32) (a3 : Int32) (a4 : Int32) (a5 : Int32) (a6 : Int32) (a7 : Int32) (s0 : Int32) (h : zHp) : Option (Int32 × zHp) :=
  zb2 (zif (zis h a0 7) (f_X7_overtime a0 a4 a7 h)) fun v1 h2 =>
  if v1 = s0 then
    r35 a0 a1 a2 (a3 + s0) a4 a5 a6 (a7 + 1) h2
  else
    zbool 0 h2
noncomputable def f_L_members_35_body (r9 : Nat → Int32 → Int32 → Int32 → Int32 → zHp → Option (Int32 × zHp)) (r35 : Nat → Int32 → Int32 → Int32 → Int32 → Int32 → Int32 → Int32 → zHp → Option (Int32 × zHp)) (a0 : Nat) (a1 : Int32) (a2 : Int32) (a3 : Int32) (a4 : Int32) (a5 : Int32) (a6 : Int32) (a7 : Int32) (h : zHp) : Option (Int32 × zHp) :=
  if 6 ≤ a7 then
    zb2 (zif (zis h a0 7) (f_X7_memberOf a0 a4 4 h)) fun v1 h2 =>
    zb2 (zif (zis h2 a0 7) (f_X7_count a0 0 h2)) fun v3 h4 =>
    if v1 ≤ v3 then
      f_L_members_143 r9 a0 a2 a3 a4 a5 a6 0 a1 h4
    else
      f_L_members_143 r9 a0 a2 a3 a4 a5 a6 1 a1 h4
  else
    zb2 (zif (zis h a0 7) (f_X7_rest a0 a4 (168 * a7) 168 h)) fun v5 h6 =>
    zb2 (zif (zis h6 a0 7) (f_X7_count a0 17 h6)) fun v7 h8 =>
    if (168 - v5) ≤ v7 then
      f_L_members_94 r9 r35 a0 a1 a2 a3 a4 a5 (a6 + (168 - v5)) a7 0 h8
    else
      zb2 (zif (zis h8 a0 7) (f_X7_count a0 17 h8)) fun v9 h10 =>
      f_L_members_94 r9 r35 a0 a1 a2 a3 a4 a5 (a6 + (168 - v5)) a7 ((168 - v5) - v9) h10
noncomputable def f_L_members_35 (r9 : Nat → Int32 → Int32 → Int32 → Int32 → zHp → Option (Int32 × zHp)) : Nat → Nat → Int32 → Int32 → Int32 → Int32 → Int32 → Int32 → Int32 → zHp → Option (Int32 × zHp)
  | 0 => fun _ _ _ _ _ _ _ _ _ => none
  | n + 1 => fun a0 a1 a2 a3 a4 a5 a6 a7 h => f_L_members_35_body r9 (f_L_members_35 r9 n) a0 a1 a2 a3 a4 a5 a6 a7 h
noncomputable def f_L_members_9_body (r9 : Nat → Int32 → Int32 → Int32 → Int32 → zHp → Option (Int32 × zHp)) (a0 : Nat) (a1 : Int32) (a2 : Int32) (a3 : Int32) (a4 : Int32) (h : zHp) : Option (Int32 × zHp) :=
  zb2 (zif (zis h a0 7) (f_X7_count a0 5 h)) fun v1 h2 =>
  if v1 ≤ a4 then
    zb2 (zif (zis h2 a0 7) (f_X7_count a0 6 h2)) fun v3 h4 =>
    if a1 = v3 then
      zb2 (zif (zis h4 a0 7) (f_X7_count a0 9 h4)) fun v5 h6 =>
      if a2 = v5 then
        zb2 (zif (zis h6 a0 7) (f_X7_count a0 10 h6)) fun v7 h8 =>
        if a3 = v7 then
          zbool 1 h8
        else
          f_L_members_340 h8
      else
        f_L_members_340 h6
    else
      f_L_members_340 h4
  else
    zb2 (zif (zis h2 a0 7) (f_X7_memberOf a0 a4 7 h2)) fun v9 h10 =>
    f_L_members_35 r9 zN a0 a1 a2 a3 a4 v9 0 0 h10
noncomputable def f_L_members_9 : Nat → Nat → Int32 → Int32 → Int32 → Int32 → zHp → Option (Int32 × zHp)
  | 0 => fun _ _ _ _ _ _ => none
  | n + 1 => fun a0 a1 a2 a3 a4 h => f_L_members_9_body (f_L_members_9 n) a0 a1 a2 a3 a4 h
noncomputable def f_L_members (a0 : Nat) (h : zHp) : Option (Int32 × zHp) :=
  f_L_members_9 zN a0 0 0 0 0 h
noncomputable def f_L_act_180 (s0 : Int32) (s1 : Int32) (s2 : Int32) (s3 : Nat) (h : zHp) : Option (Int32 × zHp) :=
  zb2 (zif (zis h s3 7) (f_X7_give s3 s2 s1 s0 h)) fun v1 h2 =>
  if v1 ≤ 0 then
    some (v1, h2)
  else
    some ((-v1), h2)
noncomputable def f_L_act (a0 : Nat) (a1 : Int32) (a2 : Int32) (h : zHp) : Option (Int32 × zHp) :=
  zb2 (f_L_low (a1 >>> (3 &&& 31)) 18 h) fun v1 h2 =>
  zb2 (zif (zis h2 a0 7) (f_X7_count a0 5 h2)) fun v3 h4 =>
  zb2 (f_L_low a2 (v3 + 1) h4) fun v5 h6 =>
  zb2 (zif (zis h6 a0 7) (f_X7_count a0 1 h6)) fun v7 h8 =>
  zb2 (f_L_low (a2 >>> (3 &&& 31)) (v7 + 1) h8) fun v9 h10 =>
  zb2 (f_L_low (a2 >>> (7 &&& 31)) 4 h10) fun v11 h12 =>
  if 4 ≤ v1 then
    if 6 ≤ v1 then
      if 10 ≤ v1 then
        if v1 = 10 then
          zb2 (f_L_low a2 2 h12) fun v45 h46 =>
          if v45 = 0 then
            zb2 (zif (zis h46 a0 7) (f_X7_climb a0 v5 v11 h46)) fun v49 h50 =>
            some (v49, h50)
          else
            zb2 (zif (zis h46 a0 7) (f_X7_leave a0 v5 v11 h46)) fun v47 h48 =>
            some (v47, h48)
        else
          if v1 = 11 then
            zb2 (f_L_low a2 3 h12) fun v39 h40 =>
            if v39 = 0 then
              zb2 (zif (zis h40 a0 7) (f_X7_cancel a0 v9 h40)) fun v43 h44 =>
              some (v43, h44)
            else
              zb2 (zif (zis h40 a0 7) (f_X7_fill a0 v9 h40)) fun v41 h42 =>
              some (v41, h42)
          else
            if v1 = 12 then
              zb2 (zif (zis h12 a0 7) (f_X7_giveUp a0 v5 v9 h12)) fun v37 h38 =>
              some (v37, h38)
            else
              if v1 = 13 then
                zb2 (f_L_low a2 3 h12) fun v29 h30 =>
                if v29 = 0 then
                  zb2 (zif (zis h30 a0 7) (f_X7_well a0 v5 h30)) fun v35 h36 =>
                  some (v35, h36)
                else
                  zb2 (f_L_low (a2 >>> (4 &&& 31)) 40 h30) fun v31 h32 =>
                  zb2 (zif (zis h32 a0 7) (f_X7_sick a0 v5 (1 + v31) h32)) fun v33 h34 =>
                  some (v33, h34)
              else
                if v1 = 14 then
                  zb2 (f_L_low (a1 >>> (8 &&& 31)) 300 h12) fun v25 h26 =>
                  zb2 (zif (zis h26 a0 7) (f_X7_certify a0 v5 v11 v25 h26)) fun v27 h28 =>
                  some (v27, h28)
                else
                  if v1 = 15 then
                    zb2 (f_L_low a2 5 h12) fun v19 h20 =>
                    zb2 (f_L_low (a2 >>> (3 &&& 31)) 13 h20) fun v21 h22 =>
                    zb2 (zif (zis h22 a0 7) (f_X7_set a0 v19 v21 h22)) fun v23 h24 =>
                    some (v23, h24)
                  else
                    if v1 = 16 then
                      zb2 (f_L_low a2 8 h12) fun v15 h16 =>
                      zb2 (zif (zis h16 a0 7) (f_X7_pass a0 (1 + v15) h16)) fun v17 h18 =>
                      some (v17, h18)
                    else
                      zb2 (zif (zis h12 a0 7) (f_X7_fill a0 v9 h12)) fun v13 h14 =>
                      some (v13, h14)
      else
        zb2 (f_L_low (a1 >>> (7 &&& 31)) 3 h12) fun v51 h52 =>
        if v51 ≤ 0 then
          f_L_act_180 v11 v9 v5 a0 h52
        else
          zb2 (f_L_low (a2 >>> (7 &&& 31)) 2 h52) fun v53 h54 =>
          f_L_act_180 v53 v9 v5 a0 h54
    else
      zb2 (f_L_low (a1 >>> (8 &&& 31)) 200 h12) fun v55 h56 =>
      zb2 (zif (zis h56 a0 7) (f_X7_member a0 v11 (20 + v55) h56)) fun v57 h58 =>
      some (v57, h58)
  else
    zb2 (f_L_low a2 3 h12) fun v59 h60 =>
    zb2 (zif (zis h60 a0 7) (f_X7_count a0 0 h60)) fun v61 h62 =>
    zb2 (f_L_low (a2 >>> (2 &&& 31)) 40 h62) fun v63 h64 =>
    zb2 (f_L_low (a2 >>> (5 &&& 31)) 12 h64) fun v65 h66 =>
    zb2 (f_L_low (a2 >>> (8 &&& 31)) 3 h66) fun v67 h68 =>
    zb2 (f_L_low (a2 >>> (10 &&& 31)) 2 h68) fun v69 h70 =>
    zb2 (f_L_low (a2 >>> (12 &&& 31)) 2 h70) fun v71 h72 =>
    zb2 (zif (zis h72 a0 7) (f_X7_sailing a0 v59 (v61 + v63) (1 + v65) (((1000 * v67) + (100 * v69)) + v71) h72)) fun v73 h74 =>
    some (v73, h74)
noncomputable def f_L_cell (L : Nat) (xs : Nat → Int32) (a1 : Int32) (h : zHp) : Option (Int32 × zHp) :=
  if (Int32.ofNat L) ≤ a1 then
    some (((2751541 * a1) + 1997), h)
  else
    (zsc L xs a1).bind fun v1 =>
    some (v1, h)
noncomputable def f_L_233 (L : Nat) (xs : Nat → Int32) (h : zHp) : Option (Int32 × zHp) :=
  some (0, h)
noncomputable def f_L_189 (L : Nat) (xs : Nat → Int32) (r10 : Nat → Int32 → zHp → Option (Int32 × zHp)) (a1 : Nat) (a2 : Int32) (h : zHp) : Option (Int32 × zHp) :=
  r10 a1 (a2 + 1) h
noncomputable def f_L_166 (L : Nat) (xs : Nat → Int32) (r10 : Nat → Int32 → zHp → Option (Int32 × zHp)) (a1 : Nat) (a2 : Int32) (h : zHp) : Option (Int32 × zHp) :=
  (zrem a2 2).bind fun v1 =>
  if v1 = 1 then
    zb2 (f_L_sailings a1 h) fun v2 h3 =>
    if v2 = 0 then
      some (0, h3)
    else
      zb2 (f_L_members a1 h3) fun v4 h5 =>
      if v4 = 0 then
        some (0, h5)
      else
        f_L_189 L xs r10 a1 a2 h5
  else
    f_L_189 L xs r10 a1 a2 h
noncomputable def f_L_137 (L : Nat) (xs : Nat → Int32) (r10 : Nat → Int32 → zHp → Option (Int32 × zHp)) (a1 : Nat) (a2 : Int32) (a3 : Int32) (a4 : Int32) (a7 : Int32) (a8 : Nat) (s0 : Int32) (s1 : Int32) (h : zHp) : Option (Int32 × zHp) :=
  if s1 = s0 then
    zb2 (f_L_act a1 a3 a4 h) fun v1 h2 =>
    if v1 = a7 then
      zb2 (f_L_tell a1 h2) fun w3 h4 =>
      zopt w3 none fun v5 =>
      zb2 (f_L_same v5 a8 h4) fun v6 h7 =>
      if v6 = 0 then
        some (0, h7)
      else
        f_L_166 L xs r10 a1 a2 h7
    else
      some (0, h2)
  else
    some (0, h)
noncomputable def f_L_92 (L : Nat) (xs : Nat → Int32) (r10 : Nat → Int32 → zHp → Option (Int32 × zHp)) (a1 : Nat) (a2 : Int32) (a3 : Int32) (a4 : Int32) (a5 : Nat) (a6 : Int32) (a7 : Int32) (a8 : Nat) (h : zHp) : Option (Int32 × zHp) :=
  if a7 < 0 then
    f_L_166 L xs r10 a1 a2 h
  else
    zb2 (f_L_low a3 4 h) fun v1 h2 =>
    if v1 = 0 then
      zb2 (zif (zis h2 a1 7) (f_X7_undo a1 h2)) fun v3 h4 =>
      zb2 (f_L_tell a1 h4) fun w5 h6 =>
      zopt w5 none fun v7 =>
      zb2 (f_L_same v7 a5 h6) fun v8 h9 =>
      if v8 = 0 then
        some (0, h9)
      else
        if a6 = 4 then
          f_L_137 L xs r10 a1 a2 a3 a4 a7 a8 3 v3 h9
        else
          f_L_137 L xs r10 a1 a2 a3 a4 a7 a8 a6 v3 h9
    else
      f_L_166 L xs r10 a1 a2 h2
noncomputable def f_L_10_body (L : Nat) (xs : Nat → Int32) (r10 : Nat → Int32 → zHp → Option (Int32 × zHp)) (a1 : Nat) (a2 : Int32) (h : zHp) : Option (Int32 × zHp) :=
  if 26 ≤ a2 then
    zb2 (zif (zis h a1 7) (f_X7_why a1 (-1) 0 0 h)) fun v1 h2 =>
    if v1 = (-1) then
      zb2 (zif (zis h2 a1 7) (f_X7_rest a1 12 0 1 h2)) fun v3 h4 =>
      if v3 = (-1) then
        zb2 (zif (zis h4 a1 7) (f_X7_ladder a1 0 (-1) h4)) fun v5 h6 =>
        if v5 = (-2) then
          some (1, h6)
        else
          f_L_233 L xs h6
      else
        f_L_233 L xs h4
    else
      f_L_233 L xs h2
  else
    zb2 (f_L_cell L xs (2 * a2) h) fun v7 h8 =>
    zb2 (f_L_cell L xs ((2 * a2) + 1) h8) fun v9 h10 =>
    zb2 (f_L_tell a1 h10) fun w11 h12 =>
    zopt w11 none fun v13 =>
    zb2 (zif (zis h12 a1 7) (f_X7_count a1 11 h12)) fun v14 h15 =>
    zb2 (f_L_act a1 v7 v9 h15) fun v16 h17 =>
    zb2 (f_L_tell a1 h17) fun w18 h19 =>
    zopt w18 none fun v20 =>
    if 0 ≤ v16 then
      f_L_92 L xs r10 a1 a2 v7 v9 v13 v14 v16 v20 h19
    else
      zb2 (f_L_same v13 v20 h19) fun v21 h22 =>
      if v21 = 0 then
        some (0, h22)
      else
        zb2 (zif (zis h22 a1 7) (f_X7_count a1 11 h22)) fun v23 h24 =>
        if v23 = v14 then
          f_L_92 L xs r10 a1 a2 v7 v9 v13 v14 v16 v20 h24
        else
          some (0, h24)
noncomputable def f_L_10 (L : Nat) (xs : Nat → Int32) : Nat → Nat → Int32 → zHp → Option (Int32 × zHp)
  | 0 => fun _ _ _ => none
  | n + 1 => fun a1 a2 h => f_L_10_body L xs (f_L_10 L xs n) a1 a2 h
noncomputable def f_L (L : Nat) (xs : Nat → Int32) (h : zHp) : Option (Int32 × zHp) :=
  znm h.1 fun q1 => znm (zadd h (.inr (.inr (7, [.null, .null, .null, .null, .null, .int 0])))) fun h2 =>
  (f_X7_init q1 h2).bind fun h3 =>
  f_L_10 L xs 27 q1 0 h3
