noncomputable def f_X0_init (a0 : Nat) (h : zHp) : Option zHp :=
  znm h.1 fun q1 => znm (zadd h (.inl (0, 1168, fun _ => 0))) fun h2 =>
  (zpV h2 a0 0 0 (.ref q1)).bind fun h3 =>
  some h3
noncomputable def f_X0_clear_30 (a0 : Nat) (h : zHp) : Option zHp :=
  (zpV h a0 0 1 (.int 0)).bind fun h1 =>
  (zpV h1 a0 0 2 (.int 0)).bind fun h2 =>
  (zpV h2 a0 0 3 (.int 0)).bind fun h3 =>
  some h3
noncomputable def f_X0_clear_2_body (r2 : Nat → Int32 → zHp → Option (zHp)) (a0 : Nat) (a1 : Int32) (h : zHp) : Option zHp :=
  (zgI h a0 0 2).bind fun v1 =>
  if v1 ≤ a1 then
    f_X0_clear_30 a0 h
  else
    if 1168 ≤ a1 then
      f_X0_clear_30 a0 h
    else
      (zgR h a0 0 0).bind fun v2 =>
      (zst h v2 0 a1 0).bind fun h3 =>
      r2 a0 (a1 + 1) h3
noncomputable def f_X0_clear_2 : Nat → Nat → Int32 → zHp → Option (zHp)
  | 0 => fun _ _ _ => none
  | n + 1 => fun a0 a1 h => f_X0_clear_2_body (f_X0_clear_2 n) a0 a1 h
noncomputable def f_X0_clear (a0 : Nat) (h : zHp) : Option zHp :=
  f_X0_clear_2 zN a0 0 h
noncomputable def f_X0_mark_26 (a0 : Nat) (a1 : Int32) (a2 : Int32) (h : zHp) : Option zHp :=
  (zgR h a0 0 0).bind fun v1 =>
  (zst h v1 0 a1 a2).bind fun h2 =>
  (zgI h2 a0 0 1).bind fun v3 =>
  (zpV h2 a0 0 1 (.int (v3 + 1))).bind fun h4 =>
  (zgI h4 a0 0 2).bind fun v5 =>
  if a1 < v5 then
    some h4
  else
    (zpV h4 a0 0 2 (.int (a1 + 1))).bind fun h6 =>
    some h6
noncomputable def f_X0_mark (a0 : Nat) (a1 : Int32) (a2 : Int32) (h : zHp) : Option zHp :=
  if a1 < 0 then
    some h
  else
    if a1 < 1168 then
      (zgR h a0 0 0).bind fun v1 =>
      (zld h v1 0 a1).bind fun v2 =>
      if v2 = 0 then
        f_X0_mark_26 a0 a1 a2 h
      else
        (zpV h a0 0 3 (.int 1)).bind fun h3 =>
        f_X0_mark_26 a0 a1 a2 h3
    else
      some h
noncomputable def f_X0_addSailing_5_body (r5 : Nat → Nat → Int32 → zHp → Option (zHp)) (a0 : Nat) (a1 : Nat) (a2 : Int32) (h : zHp) : Option zHp :=
  (zgI h a1 4 3).bind fun v1 =>
  if v1 ≤ a2 then
    some h
  else
    (zgI h a1 4 1).bind fun v2 =>
    (zif (zis h a0 0) (f_X0_mark a0 a2 (v2 + 1) h)).bind fun h3 =>
    r5 a0 a1 (a2 + 1) h3
noncomputable def f_X0_addSailing_5 : Nat → Nat → Nat → Int32 → zHp → Option (zHp)
  | 0 => fun _ _ _ _ => none
  | n + 1 => fun a0 a1 a2 h => f_X0_addSailing_5_body (f_X0_addSailing_5 n) a0 a1 a2 h
noncomputable def f_X0_addSailing (a0 : Nat) (a1 : Nat) (h : zHp) : Option zHp :=
  (zgI h a1 4 2).bind fun v1 =>
  f_X0_addSailing_5 zN a0 a1 v1 h
noncomputable def f_X0_addHandover (a0 : Nat) (a1 : Nat) (h : zHp) : Option zHp :=
  (zgI h a1 4 2).bind fun v1 =>
  if (v1 - 1) < 0 then
    some h
  else
    if 1168 ≤ (v1 - 1) then
      some h
    else
      (zgR h a0 0 0).bind fun v2 =>
      (zld h v2 0 (v1 - 1)).bind fun v3 =>
      (zgI h a1 4 1).bind fun v4 =>
      if v3 = (v4 + 1) then
        some h
      else
        (zif (zis h a0 0) (f_X0_mark a0 (v1 - 1) 7 h)).bind fun h5 =>
        some h5
noncomputable def f_X0_beginOf_34 (a1 : Nat) (a2 : Int32) (s0 : Int32) (h : zHp) : Option (Int32 × zHp) :=
  if s0 = 0 then
    (zgI h a1 4 2).bind fun v1 =>
    some (v1, h)
  else
    some (a2, h)
noncomputable def f_X0_beginOf_33 (a1 : Nat) (a2 : Int32) (h : zHp) : Option (Int32 × zHp) :=
  f_X0_beginOf_34 a1 a2 0 h
noncomputable def f_X0_beginOf (a0 : Nat) (a1 : Nat) (h : zHp) : Option (Int32 × zHp) :=
  (zgI h a1 4 2).bind fun v1 =>
  if (v1 - 1) < 0 then
    f_X0_beginOf_33 a1 (v1 - 1) h
  else
    if 1168 ≤ (v1 - 1) then
      f_X0_beginOf_33 a1 (v1 - 1) h
    else
      (zgR h a0 0 0).bind fun v2 =>
      (zld h v2 0 (v1 - 1)).bind fun v3 =>
      if v3 = 7 then
        f_X0_beginOf_34 a1 (v1 - 1) 1 h
      else
        f_X0_beginOf_33 a1 (v1 - 1) h
noncomputable def f_X0_restAt_20 (h : zHp) : Option (Int32 × zHp) :=
  some (1, h)
noncomputable def f_X0_restAt (a0 : Nat) (a1 : Int32) (h : zHp) : Option (Int32 × zHp) :=
  if a1 < 0 then
    f_X0_restAt_20 h
  else
    if 1168 ≤ a1 then
      f_X0_restAt_20 h
    else
      (zgR h a0 0 0).bind fun v1 =>
      (zld h v1 0 a1).bind fun v2 =>
      if v2 = 0 then
        f_X0_restAt_20 h
      else
        some (0, h)
noncomputable def f_X0_restIn_39 (r5 : Nat → Int32 → Int32 → Int32 → Int32 → zHp → Option (Int32 × zHp)) (a0 : Nat) (a1 : Int32) (a2 : Int32) (a3 : Int32) (a4 : Int32) (h : zHp) : Option (Int32 × zHp) :=
  r5 a0 a1 a2 a3 (a4 + 1) h
noncomputable def f_X0_restIn_5_body (r5 : Nat → Int32 → Int32 → Int32 → Int32 → zHp → Option (Int32 × zHp)) (a0 : Nat) (a1 : Int32) (a2 : Int32) (a3 : Int32) (a4 : Int32) (h : zHp) : Option (Int32 × zHp) :=
  if (a1 + a2) ≤ a4 then
    some (a3, h)
  else
    if a4 < 0 then
      f_X0_restIn_39 r5 a0 a1 a2 a3 a4 h
    else
      if 1168 ≤ a4 then
        f_X0_restIn_39 r5 a0 a1 a2 a3 a4 h
      else
        (zgR h a0 0 0).bind fun v1 =>
        (zld h v1 0 a4).bind fun v2 =>
        if v2 = 0 then
          f_X0_restIn_39 r5 a0 a1 a2 a3 a4 h
        else
          f_X0_restIn_39 r5 a0 a1 a2 (a3 + (-1)) a4 h
noncomputable def f_X0_restIn_5 : Nat → Nat → Int32 → Int32 → Int32 → Int32 → zHp → Option (Int32 × zHp)
  | 0 => fun _ _ _ _ _ _ => none
  | n + 1 => fun a0 a1 a2 a3 a4 h => f_X0_restIn_5_body (f_X0_restIn_5 n) a0 a1 a2 a3 a4 h
noncomputable def f_X0_restIn (a0 : Nat) (a1 : Int32) (a2 : Int32) (h : zHp) : Option (Int32 × zHp) :=
  f_X0_restIn_5 zN a0 a1 a2 a2 a1 h
noncomputable def f_X0_everyRowHas_11_body (r11 : Nat → Int32 → Int32 → Int32 → Int32 → Int32 → zHp → Option (Int32 × zHp)) (a0 : Nat) (a1 : Int32) (a2 : Int32) (a4 : Int32) (a5 : Int32) (a6 : Int32) (h : zHp) : Option (Int32 × zHp) :=
  if a4 ≤ a6 then
    zbool 1 h
  else
    if a1 ≤ a5 then
      zb2 (zif (zis h a0 0) (f_X0_restAt a0 (a6 + a2) h)) fun v1 h2 =>
      zb2 (zif (zis h2 a0 0) (f_X0_restAt a0 a6 h2)) fun v3 h4 =>
      r11 a0 a1 a2 a4 (a5 + (v1 - v3)) (a6 + 1) h4
    else
      zbool 0 h
noncomputable def f_X0_everyRowHas_11 : Nat → Nat → Int32 → Int32 → Int32 → Int32 → Int32 → zHp → Option (Int32 × zHp)
  | 0 => fun _ _ _ _ _ _ _ => none
  | n + 1 => fun a0 a1 a2 a4 a5 a6 h => f_X0_everyRowHas_11_body (f_X0_everyRowHas_11 n) a0 a1 a2 a4 a5 a6 h
noncomputable def f_X0_everyRowHas (a0 : Nat) (a1 : Int32) (a2 : Int32) (a3 : Int32) (a4 : Int32) (h : zHp) : Option (Int32 × zHp) :=
  zb2 (zif (zis h a0 0) (f_X0_restIn a0 a3 a2 h)) fun v1 h2 =>
  f_X0_everyRowHas_11 zN a0 a1 a2 a4 v1 a3 h2
noncomputable def f_X0_everyDayHasLongRest_78 (r9 : Nat → Int32 → Int32 → Int32 → Int32 → Int32 → Int32 → zHp → Option (Int32 × zHp)) (a0 : Nat) (a1 : Int32) (a2 : Int32) (a3 : Int32) (a4 : Int32) (a5 : Int32) (a6 : Int32) (h : zHp) : Option (Int32 × zHp) :=
  r9 a0 a1 a2 a3 a4 a5 (a6 + 1) h
noncomputable def f_X0_everyDayHasLongRest_54 (r9 : Nat → Int32 → Int32 → Int32 → Int32 → Int32 → Int32 → zHp → Option (Int32 × zHp)) (a0 : Nat) (a1 : Int32) (a2 : Int32) (a3 : Int32) (a4 : Int32) (a5 : Int32) (a6 : Int32) (h : zHp) : Option (Int32 × zHp) :=
  if ((a6 - 24) + 1) < a2 then
    f_X0_everyDayHasLongRest_78 r9 a0 a1 a2 a3 a4 a5 a6 h
  else
    if ((a6 - 24) + 1) ≤ a5 then
      f_X0_everyDayHasLongRest_78 r9 a0 a1 a2 a3 a4 a5 a6 h
    else
      zbool 0 h
noncomputable def f_X0_everyDayHasLongRest_38 (r9 : Nat → Int32 → Int32 → Int32 → Int32 → Int32 → Int32 → zHp → Option (Int32 × zHp)) (a0 : Nat) (a1 : Int32) (a2 : Int32) (a3 : Int32) (a5 : Int32) (a6 : Int32) (s0 : Int32) (h : zHp) : Option (Int32 × zHp) :=
  if s0 < a1 then
    f_X0_everyDayHasLongRest_54 r9 a0 a1 a2 a3 s0 a5 a6 h
  else
    f_X0_everyDayHasLongRest_54 r9 a0 a1 a2 a3 s0 ((a6 - a1) + 1) a6 h
noncomputable def f_X0_everyDayHasLongRest_9_body (r9 : Nat → Int32 → Int32 → Int32 → Int32 → Int32 → Int32 → zHp → Option (Int32 × zHp)) (a0 : Nat) (a1 : Int32) (a2 : Int32) (a3 : Int32) (a4 : Int32) (a5 : Int32) (a6 : Int32) (h : zHp) : Option (Int32 × zHp) :=
  if ((a3 + 24) - 1) ≤ a6 then
    zbool 1 h
  else
    zb2 (zif (zis h a0 0) (f_X0_restAt a0 a6 h)) fun v1 h2 =>
    if v1 = 1 then
      f_X0_everyDayHasLongRest_38 r9 a0 a1 a2 a3 a5 a6 (a4 + 1) h2
    else
      f_X0_everyDayHasLongRest_38 r9 a0 a1 a2 a3 a5 a6 0 h2
noncomputable def f_X0_everyDayHasLongRest_9 : Nat → Nat → Int32 → Int32 → Int32 → Int32 → Int32 → Int32 → zHp → Option (Int32 × zHp)
  | 0 => fun _ _ _ _ _ _ _ _ => none
  | n + 1 => fun a0 a1 a2 a3 a4 a5 a6 h => f_X0_everyDayHasLongRest_9_body (f_X0_everyDayHasLongRest_9 n) a0 a1 a2 a3 a4 a5 a6 h
noncomputable def f_X0_everyDayHasLongRest (a0 : Nat) (a1 : Int32) (a2 : Int32) (a3 : Int32) (h : zHp) : Option (Int32 × zHp) :=
  f_X0_everyDayHasLongRest_9 zN a0 a1 a2 a3 0 (-1) a2 h
noncomputable def f_X0_leastLongRest_3_body (r3 : Nat → Int32 → zHp → Option (Int32 × zHp)) (a0 : Nat) (a1 : Int32) (h : zHp) : Option (Int32 × zHp) :=
  if a1 ≤ 0 then
    some (a1, h)
  else
    (zgI h a0 0 2).bind fun v1 =>
    zb2 (zif (zis h a0 0) (f_X0_everyDayHasLongRest a0 a1 0 v1 h)) fun v2 h3 =>
    if v2 = 0 then
      r3 a0 (a1 + (-1)) h3
    else
      some (a1, h3)
noncomputable def f_X0_leastLongRest_3 : Nat → Nat → Int32 → zHp → Option (Int32 × zHp)
  | 0 => fun _ _ _ => none
  | n + 1 => fun a0 a1 h => f_X0_leastLongRest_3_body (f_X0_leastLongRest_3 n) a0 a1 h
noncomputable def f_X0_leastLongRest (a0 : Nat) (h : zHp) : Option (Int32 × zHp) :=
  f_X0_leastLongRest_3 zN a0 24 h
noncomputable def f_X0_firstHourOfLeastRest_34 (r15 : Nat → Int32 → Int32 → Int32 → Int32 → zHp → Option (Int32 × zHp)) (a0 : Nat) (a1 : Int32) (a2 : Int32) (a3 : Int32) (a4 : Int32) (h : zHp) : Option (Int32 × zHp) :=
  zb2 (zif (zis h a0 0) (f_X0_restAt a0 (a4 + 24) h)) fun v1 h2 =>
  zb2 (zif (zis h2 a0 0) (f_X0_restAt a0 a4 h2)) fun v3 h4 =>
  r15 a0 (a1 + (v1 - v3)) a2 a3 (a4 + 1) h4
noncomputable def f_X0_firstHourOfLeastRest_15_body (r15 : Nat → Int32 → Int32 → Int32 → Int32 → zHp → Option (Int32 × zHp)) (a0 : Nat) (a1 : Int32) (a2 : Int32) (a3 : Int32) (a4 : Int32) (h : zHp) : Option (Int32 × zHp) :=
  (zgI h a0 0 2).bind fun v1 =>
  if v1 ≤ a4 then
    some (a3, h)
  else
    if a2 ≤ a1 then
      f_X0_firstHourOfLeastRest_34 r15 a0 a1 a2 a3 a4 h
    else
      f_X0_firstHourOfLeastRest_34 r15 a0 a1 a1 a4 a4 h
noncomputable def f_X0_firstHourOfLeastRest_15 : Nat → Nat → Int32 → Int32 → Int32 → Int32 → zHp → Option (Int32 × zHp)
  | 0 => fun _ _ _ _ _ _ => none
  | n + 1 => fun a0 a1 a2 a3 a4 h => f_X0_firstHourOfLeastRest_15_body (f_X0_firstHourOfLeastRest_15 n) a0 a1 a2 a3 a4 h
noncomputable def f_X0_firstHourOfLeastRest (a0 : Nat) (h : zHp) : Option (Int32 × zHp) :=
  zb2 (zif (zis h a0 0) (f_X0_restIn a0 0 24 h)) fun v1 h2 =>
  f_X0_firstHourOfLeastRest_15 zN a0 v1 v1 0 0 h2
noncomputable def f_X4_unseatAll_2_body (r2 : Nat → Int32 → zHp → Option (zHp)) (a0 : Nat) (a1 : Int32) (h : zHp) : Option zHp :=
  if 12 ≤ a1 then
    some h
  else
    (zgR h a0 4 8).bind fun v1 =>
    (zst h v1 0 a1 (-1)).bind fun h2 =>
    r2 a0 (a1 + 1) h2
noncomputable def f_X4_unseatAll_2 : Nat → Nat → Int32 → zHp → Option (zHp)
  | 0 => fun _ _ _ => none
  | n + 1 => fun a0 a1 h => f_X4_unseatAll_2_body (f_X4_unseatAll_2 n) a0 a1 h
noncomputable def f_X4_unseatAll (a0 : Nat) (h : zHp) : Option zHp :=
  f_X4_unseatAll_2 zN a0 0 h
noncomputable def f_X4_init (a0 : Nat) (h : zHp) : Option zHp :=
  (zpV h a0 4 5 (.int 3)).bind fun h1 =>
  (zpV h1 a0 4 6 (.int (-1))).bind fun h2 =>
  znm h2.1 fun q3 => znm (zadd h2 (.inl (0, 4, fun _ => 0))) fun h4 =>
  (zpV h4 a0 4 7 (.ref q3)).bind fun h5 =>
  znm h5.1 fun q6 => znm (zadd h5 (.inl (0, 12, fun _ => 0))) fun h7 =>
  (zpV h7 a0 4 8 (.ref q6)).bind fun h8 =>
  (zif (zis h8 a0 4) (f_X4_unseatAll a0 h8)).bind fun h9 =>
  some h9
noncomputable def f_X3_init (a0 : Nat) (h : zHp) : Option zHp :=
  znm h.1 fun q1 => znm (zadd h (.inl (0, 4, fun _ => 0))) fun h2 =>
  (zpV h2 a0 3 0 (.ref q1)).bind fun h3 =>
  some h3
noncomputable def f_X2_init (a0 : Nat) (h : zHp) : Option zHp :=
  znm h.1 fun q1 => znm (zadd h (.inl (0, 12, fun _ => 0))) fun h2 =>
  (zpV h2 a0 2 0 (.ref q1)).bind fun h3 =>
  some h3
noncomputable def f_X5_init_137_body (r137 : Nat → Int32 → zHp → Option (zHp)) (a0 : Nat) (a2 : Int32) (h : zHp) : Option zHp :=
  if 4 ≤ a2 then
    some h
  else
    (zgR h a0 5 7).bind fun v1 =>
    znm h.1 fun q2 => znm (zadd h (.inr (.inr (2, [.null, .int 0])))) fun h3 =>
    (f_X2_init q2 h3).bind fun h4 =>
    (zstR h4 v1 4 2 a2 q2).bind fun h5 =>
    r137 a0 (a2 + 1) h5
noncomputable def f_X5_init_137 : Nat → Nat → Int32 → zHp → Option (zHp)
  | 0 => fun _ _ _ => none
  | n + 1 => fun a0 a2 h => f_X5_init_137_body (f_X5_init_137 n) a0 a2 h
noncomputable def f_X5_init_110_body (r110 : Nat → Int32 → zHp → Option (zHp)) (a0 : Nat) (a2 : Int32) (h : zHp) : Option zHp :=
  if 12 ≤ a2 then
    f_X5_init_137 zN a0 0 h
  else
    (zgR h a0 5 6).bind fun v1 =>
    znm h.1 fun q2 => znm (zadd h (.inr (.inr (3, [.null, .int 0, .int 0])))) fun h3 =>
    (f_X3_init q2 h3).bind fun h4 =>
    (zstR h4 v1 3 3 a2 q2).bind fun h5 =>
    r110 a0 (a2 + 1) h5
noncomputable def f_X5_init_110 : Nat → Nat → Int32 → zHp → Option (zHp)
  | 0 => fun _ _ _ => none
  | n + 1 => fun a0 a2 h => f_X5_init_110_body (f_X5_init_110 n) a0 a2 h
noncomputable def f_X5_init_83_body (r83 : Nat → Int32 → zHp → Option (zHp)) (a0 : Nat) (a2 : Int32) (h : zHp) : Option zHp :=
  if 48 ≤ a2 then
    f_X5_init_110 zN a0 0 h
  else
    (zgR h a0 5 5).bind fun v1 =>
    znm h.1 fun q2 => znm (zadd h (.inr (.inr (4, [.int 0, .int 0, .int 0, .int 0, .int 0, .int 0, .int 0, .null, .null])))) fun h3 =>
    (f_X4_init q2 h3).bind fun h4 =>
    (zstR h4 v1 2 4 a2 q2).bind fun h5 =>
    r83 a0 (a2 + 1) h5
noncomputable def f_X5_init_83 : Nat → Nat → Int32 → zHp → Option (zHp)
  | 0 => fun _ _ _ => none
  | n + 1 => fun a0 a2 h => f_X5_init_83_body (f_X5_init_83 n) a0 a2 h
noncomputable def f_X5_init_59_body (r59 : Nat → Int32 → zHp → Option (zHp)) (a0 : Nat) (a2 : Int32) (h : zHp) : Option zHp :=
  if 5 ≤ a2 then
    f_X5_init_83 zN a0 0 h
  else
    (zgR h a0 5 1).bind fun v1 =>
    (ztab 5 zT1 a2).bind fun v2 =>
    (zst h v1 0 a2 v2).bind fun h3 =>
    r59 a0 (a2 + 1) h3
noncomputable def f_X5_init_59 : Nat → Nat → Int32 → zHp → Option (zHp)
  | 0 => fun _ _ _ => none
  | n + 1 => fun a0 a2 h => f_X5_init_59_body (f_X5_init_59 n) a0 a2 h
noncomputable def f_X5_init (a0 : Nat) (a1 : Nat) (h : zHp) : Option zHp :=
  znm h.1 fun q1 => znm (zadd h (.inl (0, 5, fun _ => 0))) fun h2 =>
  (zpV h2 a0 5 1 (.ref q1)).bind fun h3 =>
  znm h3.1 fun q4 => znm (zadd h3 (.inr (.inl (2, 48, fun _ => none)))) fun h5 =>
  (zpV h5 a0 5 5 (.ref q4)).bind fun h6 =>
  znm h6.1 fun q7 => znm (zadd h6 (.inr (.inl (3, 12, fun _ => none)))) fun h8 =>
  (zpV h8 a0 5 6 (.ref q7)).bind fun h9 =>
  znm h9.1 fun q10 => znm (zadd h9 (.inr (.inl (4, 4, fun _ => none)))) fun h11 =>
  (zpV h11 a0 5 7 (.ref q10)).bind fun h12 =>
  (zpV h12 a0 5 0 (.ref a1)).bind fun h13 =>
  (zpV h13 a0 5 2 (.int 0)).bind fun h14 =>
  (zpV h14 a0 5 3 (.int 0)).bind fun h15 =>
  (zpV h15 a0 5 4 (.int 0)).bind fun h16 =>
  f_X5_init_59 zN a0 0 h16
noncomputable def f_X1_init_14_body (r14 : Nat → Nat → Int32 → zHp → Option (zHp)) (a0 : Nat) (a1 : Nat) (a2 : Int32) (h : zHp) : Option zHp :=
  if 4 ≤ a2 then
    (zpV h a0 1 1 (.int 0)).bind fun h1 =>
    some h1
  else
    (zgR h a0 1 0).bind fun v2 =>
    znm h.1 fun q3 => znm (zadd h (.inr (.inr (5, [.null, .null, .int 0, .int 0, .int 0, .null, .null, .null])))) fun h4 =>
    (f_X5_init q3 a1 h4).bind fun h5 =>
    (zstR h5 v2 5 5 a2 q3).bind fun h6 =>
    r14 a0 a1 (a2 + 1) h6
noncomputable def f_X1_init_14 : Nat → Nat → Nat → Int32 → zHp → Option (zHp)
  | 0 => fun _ _ _ _ => none
  | n + 1 => fun a0 a1 a2 h => f_X1_init_14_body (f_X1_init_14 n) a0 a1 a2 h
noncomputable def f_X1_init (a0 : Nat) (a1 : Nat) (h : zHp) : Option zHp :=
  znm h.1 fun q1 => znm (zadd h (.inr (.inl (5, 4, fun _ => none)))) fun h2 =>
  (zpV h2 a0 1 0 (.ref q1)).bind fun h3 =>
  f_X1_init_14 zN a0 a1 0 h3
noncomputable def f_X1_dropOldest_9_body (r9 : Nat → Nat → Int32 → zHp → Option (zHp)) (a0 : Nat) (a1 : Nat) (a2 : Int32) (h : zHp) : Option zHp :=
  if 4 ≤ a2 then
    (zgR h a0 1 0).bind fun v1 =>
    (zstR h v1 5 5 3 a1).bind fun h2 =>
    (zpV h2 a0 1 1 (.int 3)).bind fun h3 =>
    some h3
  else
    (zgR h a0 1 0).bind fun v4 =>
    (zgR h a0 1 0).bind fun v5 =>
    (zldR h v5 5 a2).bind fun v6 =>
    (zstR h v4 5 5 (a2 - 1) v6).bind fun h7 =>
    r9 a0 a1 (a2 + 1) h7
noncomputable def f_X1_dropOldest_9 : Nat → Nat → Nat → Int32 → zHp → Option (zHp)
  | 0 => fun _ _ _ _ => none
  | n + 1 => fun a0 a1 a2 h => f_X1_dropOldest_9_body (f_X1_dropOldest_9 n) a0 a1 a2 h
noncomputable def f_X1_dropOldest (a0 : Nat) (h : zHp) : Option zHp :=
  (zgR h a0 1 0).bind fun v1 =>
  (zldR h v1 5 0).bind fun v2 =>
  f_X1_dropOldest_9 zN a0 v2 1 h
noncomputable def f_X7_isWithin_14 (h : zHp) : Option (Int32 × zHp) :=
  zbool 0 h
noncomputable def f_X7_isWithin (a0 : Int32) (a1 : Int32) (a2 : Int32) (h : zHp) : Option (Int32 × zHp) :=
  if a0 < a1 then
    f_X7_isWithin_14 h
  else
    if a2 < a0 then
      f_X7_isWithin_14 h
    else
      zbool 1 h
noncomputable def f_X4_copyFrom (a0 : Nat) (a1 : Nat) (h : zHp) : Option zHp :=
  (zgI h a1 4 0).bind fun v1 =>
  (zpV h a0 4 0 (.int v1)).bind fun h2 =>
  (zgI h2 a1 4 1).bind fun v3 =>
  (zpV h2 a0 4 1 (.int v3)).bind fun h4 =>
  (zgI h4 a1 4 2).bind fun v5 =>
  (zpV h4 a0 4 2 (.int v5)).bind fun h6 =>
  (zgI h6 a1 4 3).bind fun v7 =>
  (zpV h6 a0 4 3 (.int v7)).bind fun h8 =>
  (zgI h8 a1 4 4).bind fun v9 =>
  (zpV h8 a0 4 4 (.int v9)).bind fun h10 =>
  (zgI h10 a1 4 5).bind fun v11 =>
  (zpV h10 a0 4 5 (.int v11)).bind fun h12 =>
  (zgR h12 a1 4 7).bind fun v13 =>
  (zgR h12 a0 4 7).bind fun v14 =>
  (zcopy h12 v13 0 v14 0 4).bind fun h15 =>
  (zgR h15 a1 4 8).bind fun v16 =>
  (zgR h15 a0 4 8).bind fun v17 =>
  (zcopy h15 v16 0 v17 0 12).bind fun h18 =>
  some h18
noncomputable def f_X3_copyFrom (a0 : Nat) (a1 : Nat) (h : zHp) : Option zHp :=
  (zgR h a1 3 0).bind fun v1 =>
  (zgR h a0 3 0).bind fun v2 =>
  (zcopy h v1 0 v2 0 4).bind fun h3 =>
  (zgI h3 a1 3 1).bind fun v4 =>
  (zpV h3 a0 3 1 (.int v4)).bind fun h5 =>
  (zgI h5 a1 3 2).bind fun v6 =>
  (zpV h5 a0 3 2 (.int v6)).bind fun h7 =>
  some h7
noncomputable def f_X2_copyFrom (a0 : Nat) (a1 : Nat) (h : zHp) : Option zHp :=
  (zgR h a1 2 0).bind fun v1 =>
  (zgR h a0 2 0).bind fun v2 =>
  (zcopy h v1 0 v2 0 12).bind fun h3 =>
  (zgI h3 a1 2 1).bind fun v4 =>
  (zpV h3 a0 2 1 (.int v4)).bind fun h5 =>
  some h5
noncomputable def f_X5_copyFrom_98_body (r98 : Nat → Nat → Int32 → zHp → Option (zHp)) (a0 : Nat) (a1 : Nat) (a2 : Int32) (h : zHp) : Option zHp :=
  if 4 ≤ a2 then
    some h
  else
    (zgR h a0 5 7).bind fun v1 =>
    (zldR h v1 4 a2).bind fun v2 =>
    (zgR h a1 5 7).bind fun v3 =>
    (zldR h v3 4 a2).bind fun v4 =>
    (zif (zis h v2 2) (f_X2_copyFrom v2 v4 h)).bind fun h5 =>
    r98 a0 a1 (a2 + 1) h5
noncomputable def f_X5_copyFrom_98 : Nat → Nat → Nat → Int32 → zHp → Option (zHp)
  | 0 => fun _ _ _ _ => none
  | n + 1 => fun a0 a1 a2 h => f_X5_copyFrom_98_body (f_X5_copyFrom_98 n) a0 a1 a2 h
noncomputable def f_X5_copyFrom_69_body (r69 : Nat → Nat → Int32 → zHp → Option (zHp)) (a0 : Nat) (a1 : Nat) (a2 : Int32) (h : zHp) : Option zHp :=
  if 12 ≤ a2 then
    f_X5_copyFrom_98 zN a0 a1 0 h
  else
    (zgR h a0 5 6).bind fun v1 =>
    (zldR h v1 3 a2).bind fun v2 =>
    (zgR h a1 5 6).bind fun v3 =>
    (zldR h v3 3 a2).bind fun v4 =>
    (zif (zis h v2 3) (f_X3_copyFrom v2 v4 h)).bind fun h5 =>
    r69 a0 a1 (a2 + 1) h5
noncomputable def f_X5_copyFrom_69 : Nat → Nat → Nat → Int32 → zHp → Option (zHp)
  | 0 => fun _ _ _ _ => none
  | n + 1 => fun a0 a1 a2 h => f_X5_copyFrom_69_body (f_X5_copyFrom_69 n) a0 a1 a2 h
noncomputable def f_X5_copyFrom_40_body (r40 : Nat → Nat → Int32 → zHp → Option (zHp)) (a0 : Nat) (a1 : Nat) (a2 : Int32) (h : zHp) : Option zHp :=
  if 48 ≤ a2 then
    f_X5_copyFrom_69 zN a0 a1 0 h
  else
    (zgR h a0 5 5).bind fun v1 =>
    (zldR h v1 2 a2).bind fun v2 =>
    (zgR h a1 5 5).bind fun v3 =>
    (zldR h v3 2 a2).bind fun v4 =>
    (zif (zis h v2 4) (f_X4_copyFrom v2 v4 h)).bind fun h5 =>
    r40 a0 a1 (a2 + 1) h5
noncomputable def f_X5_copyFrom_40 : Nat → Nat → Nat → Int32 → zHp → Option (zHp)
  | 0 => fun _ _ _ _ => none
  | n + 1 => fun a0 a1 a2 h => f_X5_copyFrom_40_body (f_X5_copyFrom_40 n) a0 a1 a2 h
noncomputable def f_X5_copyFrom (a0 : Nat) (a1 : Nat) (h : zHp) : Option zHp :=
  (zgI h a1 5 2).bind fun v1 =>
  (zpV h a0 5 2 (.int v1)).bind fun h2 =>
  (zgI h2 a1 5 3).bind fun v3 =>
  (zpV h2 a0 5 3 (.int v3)).bind fun h4 =>
  (zgI h4 a1 5 4).bind fun v5 =>
  (zpV h4 a0 5 4 (.int v5)).bind fun h6 =>
  (zgR h6 a1 5 1).bind fun v7 =>
  (zgR h6 a0 5 1).bind fun v8 =>
  (zcopy h6 v7 0 v8 0 5).bind fun h9 =>
  f_X5_copyFrom_40 zN a0 a1 0 h9
noncomputable def f_X1_record_12 (a0 : Nat) (a1 : Nat) (h : zHp) : Option zHp :=
  (zgI h a0 1 1).bind fun v1 =>
  zb2 (f_X7_isWithin v1 0 3 h) fun v2 h3 =>
  if v2 = 0 then
    some h3
  else
    (zgR h3 a0 1 0).bind fun v4 =>
    (zgI h3 a0 1 1).bind fun v5 =>
    (zldR h3 v4 5 v5).bind fun v6 =>
    (zif (zis h3 v6 5) (f_X5_copyFrom v6 a1 h3)).bind fun h7 =>
    (zgI h7 a0 1 1).bind fun v8 =>
    (zpV h7 a0 1 1 (.int (v8 + 1))).bind fun h9 =>
    some h9
noncomputable def f_X1_record (a0 : Nat) (a1 : Nat) (h : zHp) : Option zHp :=
  (zgI h a0 1 1).bind fun v1 =>
  if v1 < 4 then
    f_X1_record_12 a0 a1 h
  else
    (zif (zis h a0 1) (f_X1_dropOldest a0 h)).bind fun h2 =>
    f_X1_record_12 a0 a1 h2
noncomputable def f_X1_takeBack (a0 : Nat) (a1 : Nat) (h : zHp) : Option zHp :=
  (zgI h a0 1 1).bind fun v1 =>
  if v1 ≤ 0 then
    some h
  else
    (zgI h a0 1 1).bind fun v2 =>
    if 4 < v2 then
      some h
    else
      (zgI h a0 1 1).bind fun v3 =>
      (zpV h a0 1 1 (.int (v3 - 1))).bind fun h4 =>
      (zgR h4 a0 1 0).bind fun v5 =>
      (zgI h4 a0 1 1).bind fun v6 =>
      (zldR h4 v5 5 v6).bind fun v7 =>
      (zif (zis h4 a1 5) (f_X5_copyFrom a1 v7 h4)).bind fun h8 =>
      some h8
noncomputable def f_X2_memberOfRank_27 (h : zHp) : Option (Int32 × zHp) :=
  some ((-5), h)
noncomputable def f_X2_memberOfRank (a0 : Nat) (a1 : Int32) (h : zHp) : Option (Int32 × zHp) :=
  if a1 < 0 then
    f_X2_memberOfRank_27 h
  else
    (zgI h a0 2 1).bind fun v1 =>
    if v1 ≤ a1 then
      f_X2_memberOfRank_27 h
    else
      if 12 ≤ a1 then
        f_X2_memberOfRank_27 h
      else
        (zgR h a0 2 0).bind fun v2 =>
        (zld h v2 0 a1).bind fun v3 =>
        some (v3, h)
noncomputable def f_X2_has_2_body (r2 : Nat → Int32 → Int32 → zHp → Option (Int32 × zHp)) (a0 : Nat) (a1 : Int32) (a2 : Int32) (h : zHp) : Option (Int32 × zHp) :=
  (zgI h a0 2 1).bind fun v1 =>
  if v1 ≤ a2 then
    zbool 0 h
  else
    zb2 (zif (zis h a0 2) (f_X2_memberOfRank a0 a2 h)) fun v2 h3 =>
    if v2 = a1 then
      zbool 1 h3
    else
      r2 a0 a1 (a2 + 1) h3
noncomputable def f_X2_has_2 : Nat → Nat → Int32 → Int32 → zHp → Option (Int32 × zHp)
  | 0 => fun _ _ _ _ => none
  | n + 1 => fun a0 a1 a2 h => f_X2_has_2_body (f_X2_has_2 n) a0 a1 a2 h
noncomputable def f_X2_has (a0 : Nat) (a1 : Int32) (h : zHp) : Option (Int32 × zHp) :=
  f_X2_has_2 zN a0 a1 0 h
noncomputable def f_X2_takeOff_61 (a0 : Nat) (a2 : Int32) (h : zHp) : Option (Int32 × zHp) :=
  if a2 = 0 then
    (zgI h a0 2 1).bind fun v1 =>
    some (v1, h)
  else
    (zgI h a0 2 1).bind fun v2 =>
    (zpV h a0 2 1 (.int (v2 - 1))).bind fun h3 =>
    (zgI h3 a0 2 1).bind fun v4 =>
    some (v4, h3)
noncomputable def f_X2_takeOff_55 (r4 : Nat → Int32 → Int32 → Int32 → zHp → Option (Int32 × zHp)) (a0 : Nat) (a1 : Int32) (a2 : Int32) (a3 : Int32) (h : zHp) : Option (Int32 × zHp) :=
  r4 a0 a1 a2 (a3 + 1) h
noncomputable def f_X2_takeOff_43 (r4 : Nat → Int32 → Int32 → Int32 → zHp → Option (Int32 × zHp)) (a0 : Nat) (a1 : Int32) (a2 : Int32) (a3 : Int32) (h : zHp) : Option (Int32 × zHp) :=
  (zgR h a0 2 0).bind fun v1 =>
  (zld h v1 0 a3).bind fun v2 =>
  if v2 = a1 then
    f_X2_takeOff_55 r4 a0 a1 1 a3 h
  else
    f_X2_takeOff_55 r4 a0 a1 a2 a3 h
noncomputable def f_X2_takeOff_4_body (r4 : Nat → Int32 → Int32 → Int32 → zHp → Option (Int32 × zHp)) (a0 : Nat) (a1 : Int32) (a2 : Int32) (a3 : Int32) (h : zHp) : Option (Int32 × zHp) :=
  (zgI h a0 2 1).bind fun v1 =>
  if v1 ≤ a3 then
    f_X2_takeOff_61 a0 a2 h
  else
    if 12 ≤ a3 then
      f_X2_takeOff_61 a0 a2 h
    else
      if a2 = 0 then
        f_X2_takeOff_43 r4 a0 a1 a2 a3 h
      else
        if a3 ≤ 0 then
          f_X2_takeOff_43 r4 a0 a1 a2 a3 h
        else
          (zgR h a0 2 0).bind fun v2 =>
          (zgR h a0 2 0).bind fun v3 =>
          (zld h v3 0 a3).bind fun v4 =>
          (zst h v2 0 (a3 - 1) v4).bind fun h5 =>
          f_X2_takeOff_55 r4 a0 a1 a2 a3 h5
noncomputable def f_X2_takeOff_4 : Nat → Nat → Int32 → Int32 → Int32 → zHp → Option (Int32 × zHp)
  | 0 => fun _ _ _ _ _ => none
  | n + 1 => fun a0 a1 a2 a3 h => f_X2_takeOff_4_body (f_X2_takeOff_4 n) a0 a1 a2 a3 h
noncomputable def f_X2_takeOff (a0 : Nat) (a1 : Int32) (h : zHp) : Option (Int32 × zHp) :=
  f_X2_takeOff_4 zN a0 a1 0 0 h
noncomputable def f_X2_putLast (a0 : Nat) (a1 : Int32) (h : zHp) : Option (Int32 × zHp) :=
  zb2 (zif (zis h a0 2) (f_X2_takeOff a0 a1 h)) fun v1 h2 =>
  (zgI h2 a0 2 1).bind fun v3 =>
  zb2 (f_X7_isWithin v3 0 11 h2) fun v4 h5 =>
  if v4 = 0 then
    (zgI h5 a0 2 1).bind fun v6 =>
    some (v6, h5)
  else
    (zgR h5 a0 2 0).bind fun v7 =>
    (zgI h5 a0 2 1).bind fun v8 =>
    (zst h5 v7 0 v8 a1).bind fun h9 =>
    (zgI h9 a0 2 1).bind fun v10 =>
    (zpV h9 a0 2 1 (.int (v10 + 1))).bind fun h11 =>
    (zgI h11 a0 2 1).bind fun v12 =>
    some (v12, h11)
noncomputable def f_X7_isRole_13 (h : zHp) : Option (Int32 × zHp) :=
  zbool 0 h
noncomputable def f_X7_isRole (a0 : Int32) (h : zHp) : Option (Int32 × zHp) :=
  if a0 < 0 then
    f_X7_isRole_13 h
  else
    if 4 ≤ a0 then
      f_X7_isRole_13 h
    else
      zbool 1 h
noncomputable def f_X3_certificateOf (a0 : Nat) (a1 : Int32) (h : zHp) : Option (Int32 × zHp) :=
  zb2 (f_X7_isRole a1 h) fun v1 h2 =>
  if v1 = 0 then
    some (0, h2)
  else
    (zgR h2 a0 3 0).bind fun v3 =>
    (zld h2 v3 0 a1).bind fun v4 =>
    some (v4, h2)
noncomputable def f_X3_replaceCertificate (a0 : Nat) (a1 : Int32) (a2 : Int32) (h : zHp) : Option (Int32 × zHp) :=
  zb2 (zif (zis h a0 3) (f_X3_certificateOf a0 a1 h)) fun v1 h2 =>
  zb2 (f_X7_isRole a1 h2) fun v3 h4 =>
  if v3 = 0 then
    some (v1, h4)
  else
    (zgR h4 a0 3 0).bind fun v5 =>
    (zst h4 v5 0 a1 a2).bind fun h6 =>
    some (v1, h6)
noncomputable def f_X4_come_41_body (r41 : Nat → Int32 → Int32 → zHp → Option (zHp)) (a0 : Nat) (a6 : Int32) (a7 : Int32) (h : zHp) : Option zHp :=
  if a7 < 0 then
    some h
  else
    (zgR h a0 4 7).bind fun v1 =>
    (zrem a6 10).bind fun v2 =>
    (zst h v1 0 a7 v2).bind fun h3 =>
    (zdiv a6 10).bind fun v4 =>
    r41 a0 v4 (a7 + (-1)) h3
noncomputable def f_X4_come_41 : Nat → Nat → Int32 → Int32 → zHp → Option (zHp)
  | 0 => fun _ _ _ _ => none
  | n + 1 => fun a0 a6 a7 h => f_X4_come_41_body (f_X4_come_41 n) a0 a6 a7 h
noncomputable def f_X4_come (a0 : Nat) (a1 : Int32) (a2 : Int32) (a3 : Int32) (a4 : Int32) (a5 : Int32) (h : zHp) : Option zHp :=
  (zpV h a0 4 0 (.int a1)).bind fun h1 =>
  (zpV h1 a0 4 1 (.int a2)).bind fun h2 =>
  (zpV h2 a0 4 2 (.int a3)).bind fun h3 =>
  (zpV h3 a0 4 3 (.int (a3 + a4))).bind fun h4 =>
  (zpV h4 a0 4 4 (.int a5)).bind fun h5 =>
  (zpV h5 a0 4 5 (.int 0)).bind fun h6 =>
  f_X4_come_41 zN a0 a5 3 h6
noncomputable def f_X4_hasCome (a0 : Nat) (h : zHp) : Option (Int32 × zHp) :=
  (zgI h a0 4 5).bind fun v1 =>
  if v1 = 3 then
    zbool 0 h
  else
    zbool 1 h
noncomputable def f_X4_isOpen (a0 : Nat) (h : zHp) : Option (Int32 × zHp) :=
  (zgI h a0 4 5).bind fun v1 =>
  if v1 = 0 then
    zbool 1 h
  else
    zbool 0 h
noncomputable def f_X4_occupies_55 (h : zHp) : Option (Int32 × zHp) :=
  zbool 0 h
noncomputable def f_X4_occupies_20 (a0 : Nat) (a1 : Int32) (a2 : Int32) (a3 : Int32) (s0 : Int32) (h : zHp) : Option (Int32 × zHp) :=
  if s0 = 0 then
    f_X4_occupies_55 h
  else
    (zgI h a0 4 1).bind fun v1 =>
    if v1 = a1 then
      (zgI h a0 4 2).bind fun v2 =>
      if a3 ≤ v2 then
        f_X4_occupies_55 h
      else
        (zgI h a0 4 3).bind fun v3 =>
        if v3 ≤ a2 then
          f_X4_occupies_55 h
        else
          zbool 1 h
    else
      f_X4_occupies_55 h
noncomputable def f_X4_occupies_15 (a0 : Nat) (a1 : Int32) (a2 : Int32) (a3 : Int32) (h : zHp) : Option (Int32 × zHp) :=
  f_X4_occupies_20 a0 a1 a2 a3 1 h
noncomputable def f_X4_occupies (a0 : Nat) (a1 : Int32) (a2 : Int32) (a3 : Int32) (h : zHp) : Option (Int32 × zHp) :=
  (zgI h a0 4 5).bind fun v1 =>
  if v1 = 0 then
    f_X4_occupies_15 a0 a1 a2 a3 h
  else
    (zgI h a0 4 5).bind fun v2 =>
    if v2 = 1 then
      f_X4_occupies_15 a0 a1 a2 a3 h
    else
      f_X4_occupies_20 a0 a1 a2 a3 0 h
noncomputable def f_X7_isMemberNumber_14 (h : zHp) : Option (Int32 × zHp) :=
  zbool 0 h
noncomputable def f_X7_isMemberNumber (a0 : Int32) (h : zHp) : Option (Int32 × zHp) :=
  if a0 < 0 then
    f_X7_isMemberNumber_14 h
  else
    if 12 ≤ a0 then
      f_X7_isMemberNumber_14 h
    else
      zbool 1 h
noncomputable def f_X4_roleOf (a0 : Nat) (a1 : Int32) (h : zHp) : Option (Int32 × zHp) :=
  zb2 (f_X7_isMemberNumber a1 h) fun v1 h2 =>
  if v1 = 0 then
    some ((-1), h2)
  else
    (zgR h2 a0 4 8).bind fun v3 =>
    (zld h2 v3 0 a1).bind fun v4 =>
    some (v4, h2)
noncomputable def f_X4_seats (a0 : Nat) (a1 : Int32) (h : zHp) : Option (Int32 × zHp) :=
  zb2 (zif (zis h a0 4) (f_X4_roleOf a0 a1 h)) fun v1 h2 =>
  if v1 = (-1) then
    zbool 0 h2
  else
    zbool 1 h2
noncomputable def f_X4_seat (a0 : Nat) (a1 : Int32) (a2 : Int32) (h : zHp) : Option zHp :=
  zb2 (f_X7_isMemberNumber a1 h) fun v1 h2 =>
  if v1 = 0 then
    some h2
  else
    (zgR h2 a0 4 8).bind fun v3 =>
    (zst h2 v3 0 a1 a2).bind fun h4 =>
    some h4
noncomputable def f_X4_unseat (a0 : Nat) (a1 : Int32) (h : zHp) : Option (Int32 × zHp) :=
  zb2 (zif (zis h a0 4) (f_X4_roleOf a0 a1 h)) fun v1 h2 =>
  (zif (zis h2 a0 4) (f_X4_seat a0 a1 (-1) h2)).bind fun h3 =>
  some (v1, h3)
noncomputable def f_X4_takenPlaces_23 (r4 : Nat → Int32 → Int32 → zHp → Option (Int32 × zHp)) (a0 : Nat) (a1 : Int32) (a2 : Int32) (h : zHp) : Option (Int32 × zHp) :=
  r4 a0 a1 (a2 + 1) h
noncomputable def f_X4_takenPlaces_4_body (r4 : Nat → Int32 → Int32 → zHp → Option (Int32 × zHp)) (a0 : Nat) (a1 : Int32) (a2 : Int32) (h : zHp) : Option (Int32 × zHp) :=
  if 12 ≤ a2 then
    some (a1, h)
  else
    (zgR h a0 4 8).bind fun v1 =>
    (zld h v1 0 a2).bind fun v2 =>
    if v2 = (-1) then
      f_X4_takenPlaces_23 r4 a0 a1 a2 h
    else
      f_X4_takenPlaces_23 r4 a0 (a1 + 1) a2 h
noncomputable def f_X4_takenPlaces_4 : Nat → Nat → Int32 → Int32 → zHp → Option (Int32 × zHp)
  | 0 => fun _ _ _ _ => none
  | n + 1 => fun a0 a1 a2 h => f_X4_takenPlaces_4_body (f_X4_takenPlaces_4 n) a0 a1 a2 h
noncomputable def f_X4_takenPlaces (a0 : Nat) (h : zHp) : Option (Int32 × zHp) :=
  f_X4_takenPlaces_4 zN a0 0 0 h
noncomputable def f_X4_callOff (a0 : Nat) (h : zHp) : Option (Int32 × zHp) :=
  zb2 (zif (zis h a0 4) (f_X4_takenPlaces a0 h)) fun v1 h2 =>
  (zpV h2 a0 4 5 (.int 2)).bind fun h3 =>
  (zif (zis h3 a0 4) (f_X4_unseatAll a0 h3)).bind fun h4 =>
  some (v1, h4)
noncomputable def f_X4_allPlaces_4_body (r4 : Nat → Int32 → Int32 → zHp → Option (Int32 × zHp)) (a0 : Nat) (a1 : Int32) (a2 : Int32) (h : zHp) : Option (Int32 × zHp) :=
  if 4 ≤ a2 then
    some (a1, h)
  else
    (zgR h a0 4 7).bind fun v1 =>
    (zld h v1 0 a2).bind fun v2 =>
    r4 a0 (a1 + v2) (a2 + 1) h
noncomputable def f_X4_allPlaces_4 : Nat → Nat → Int32 → Int32 → zHp → Option (Int32 × zHp)
  | 0 => fun _ _ _ _ => none
  | n + 1 => fun a0 a1 a2 h => f_X4_allPlaces_4_body (f_X4_allPlaces_4 n) a0 a1 a2 h
noncomputable def f_X4_allPlaces (a0 : Nat) (h : zHp) : Option (Int32 × zHp) :=
  f_X4_allPlaces_4 zN a0 0 0 h
noncomputable def f_X4_freePlaces (a0 : Nat) (h : zHp) : Option (Int32 × zHp) :=
  zb2 (zif (zis h a0 4) (f_X4_allPlaces a0 h)) fun v1 h2 =>
  zb2 (zif (zis h2 a0 4) (f_X4_takenPlaces a0 h2)) fun v3 h4 =>
  some ((v1 - v3), h4)
noncomputable def f_X4_depart (a0 : Nat) (h : zHp) : Option zHp :=
  zb2 (zif (zis h a0 4) (f_X4_freePlaces a0 h)) fun v1 h2 =>
  if v1 = 0 then
    (zpV h2 a0 4 5 (.int 1)).bind fun h5 =>
    some h5
  else
    zb2 (zif (zis h2 a0 4) (f_X4_callOff a0 h2)) fun v3 h4 =>
    some h4
noncomputable def f_X4_freePlacesOf_37 (r18 : Nat → Int32 → Int32 → Int32 → zHp → Option (Int32 × zHp)) (a0 : Nat) (a1 : Int32) (a2 : Int32) (a3 : Int32) (h : zHp) : Option (Int32 × zHp) :=
  r18 a0 a1 a2 (a3 + 1) h
noncomputable def f_X4_freePlacesOf_18_body (r18 : Nat → Int32 → Int32 → Int32 → zHp → Option (Int32 × zHp)) (a0 : Nat) (a1 : Int32) (a2 : Int32) (a3 : Int32) (h : zHp) : Option (Int32 × zHp) :=
  if 12 ≤ a3 then
    some (a2, h)
  else
    (zgR h a0 4 8).bind fun v1 =>
    (zld h v1 0 a3).bind fun v2 =>
    if v2 = a1 then
      f_X4_freePlacesOf_37 r18 a0 a1 (a2 + (-1)) a3 h
    else
      f_X4_freePlacesOf_37 r18 a0 a1 a2 a3 h
noncomputable def f_X4_freePlacesOf_18 : Nat → Nat → Int32 → Int32 → Int32 → zHp → Option (Int32 × zHp)
  | 0 => fun _ _ _ _ _ => none
  | n + 1 => fun a0 a1 a2 a3 h => f_X4_freePlacesOf_18_body (f_X4_freePlacesOf_18 n) a0 a1 a2 a3 h
noncomputable def f_X4_freePlacesOf (a0 : Nat) (a1 : Int32) (h : zHp) : Option (Int32 × zHp) :=
  zb2 (f_X7_isRole a1 h) fun v1 h2 =>
  if v1 = 0 then
    some (0, h2)
  else
    (zgR h2 a0 4 7).bind fun v3 =>
    (zld h2 v3 0 a1).bind fun v4 =>
    f_X4_freePlacesOf_18 zN a0 a1 v4 0 h2
noncomputable def f_X4_memberOfRank_41 (r4 : Nat → Int32 → Int32 → Int32 → zHp → Option (Int32 × zHp)) (r12 : Nat → Int32 → Int32 → Int32 → Int32 → zHp → Option (Int32 × zHp)) (a0 : Nat) (a1 : Int32) (a2 : Int32) (a3 : Int32) (a4 : Int32) (h : zHp) : Option (Int32 × zHp) :=
  r12 a0 a1 a2 a3 (a4 + 1) h
noncomputable def f_X4_memberOfRank_12_body (r4 : Nat → Int32 → Int32 → Int32 → zHp → Option (Int32 × zHp)) (r12 : Nat → Int32 → Int32 → Int32 → Int32 → zHp → Option (Int32 × zHp)) (a0 : Nat) (a1 : Int32) (a2 : Int32) (a3 : Int32) (a4 : Int32) (h : zHp) : Option (Int32 × zHp) :=
  if 12 ≤ a4 then
    r4 a0 a1 a2 (a3 + 1) h
  else
    (zgR h a0 4 8).bind fun v1 =>
    (zld h v1 0 a4).bind fun v2 =>
    if v2 = a3 then
      if a2 = a1 then
        some (a4, h)
      else
        f_X4_memberOfRank_41 r4 r12 a0 a1 (a2 + 1) a3 a4 h
    else
      f_X4_memberOfRank_41 r4 r12 a0 a1 a2 a3 a4 h
noncomputable def f_X4_memberOfRank_12 (r4 : Nat → Int32 → Int32 → Int32 → zHp → Option (Int32 × zHp)) : Nat → Nat → Int32 → Int32 → Int32 → Int32 → zHp → Option (Int32 × zHp)
  | 0 => fun _ _ _ _ _ _ => none
  | n + 1 => fun a0 a1 a2 a3 a4 h => f_X4_memberOfRank_12_body r4 (f_X4_memberOfRank_12 r4 n) a0 a1 a2 a3 a4 h
noncomputable def f_X4_memberOfRank_4_body (r4 : Nat → Int32 → Int32 → Int32 → zHp → Option (Int32 × zHp)) (a0 : Nat) (a1 : Int32) (a2 : Int32) (a3 : Int32) (h : zHp) : Option (Int32 × zHp) :=
  if 4 ≤ a3 then
    some ((-5), h)
  else
    f_X4_memberOfRank_12 r4 zN a0 a1 a2 a3 0 h
noncomputable def f_X4_memberOfRank_4 : Nat → Nat → Int32 → Int32 → Int32 → zHp → Option (Int32 × zHp)
  | 0 => fun _ _ _ _ _ => none
  | n + 1 => fun a0 a1 a2 a3 h => f_X4_memberOfRank_4_body (f_X4_memberOfRank_4 n) a0 a1 a2 a3 h
noncomputable def f_X4_memberOfRank (a0 : Nat) (a1 : Int32) (h : zHp) : Option (Int32 × zHp) :=
  f_X4_memberOfRank_4 zN a0 a1 0 0 h
noncomputable def f_X5_sailingAt_43 (r11 : Int32 → Nat → Int32 → Int32 → zHp → Option (Option Nat × zHp)) (a1 : Int32) (a2 : Nat) (a3 : Int32) (a4 : Int32) (h : zHp) : Option (Option Nat × zHp) :=
  r11 a1 a2 a3 (a4 + 1) h
noncomputable def f_X5_sailingAt_11_body (r11 : Int32 → Nat → Int32 → Int32 → zHp → Option (Option Nat × zHp)) (a1 : Int32) (a2 : Nat) (a3 : Int32) (a4 : Int32) (h : zHp) : Option (Option Nat × zHp) :=
  if a3 ≤ a4 then
    some (none, h)
  else
    (zldR h a2 2 a4).bind fun v1 =>
    zb2 (zif (zis h v1 4) (f_X4_hasCome v1 h)) fun v2 h3 =>
    if v2 = 0 then
      f_X5_sailingAt_43 r11 a1 a2 a3 a4 h3
    else
      (zgI h3 v1 4 0).bind fun v4 =>
      if v4 = a1 then
        some ((some v1), h3)
      else
        f_X5_sailingAt_43 r11 a1 a2 a3 a4 h3
noncomputable def f_X5_sailingAt_11 : Nat → Int32 → Nat → Int32 → Int32 → zHp → Option (Option Nat × zHp)
  | 0 => fun _ _ _ _ _ => none
  | n + 1 => fun a1 a2 a3 a4 h => f_X5_sailingAt_11_body (f_X5_sailingAt_11 n) a1 a2 a3 a4 h
noncomputable def f_X5_sailingAt (a0 : Nat) (a1 : Int32) (h : zHp) : Option (Option Nat × zHp) :=
  (zgR h a0 5 5).bind fun v1 =>
  (zlnR h v1 2).bind fun v2 =>
  f_X5_sailingAt_11 zN a1 v1 v2 0 h
noncomputable def f_X5_memberAt_24 (h : zHp) : Option (Option Nat × zHp) :=
  some (none, h)
noncomputable def f_X5_memberAt (a0 : Nat) (a1 : Int32) (h : zHp) : Option (Option Nat × zHp) :=
  zb2 (f_X7_isMemberNumber a1 h) fun v1 h2 =>
  if v1 = 0 then
    f_X5_memberAt_24 h2
  else
    (zgI h2 a0 5 4).bind fun v3 =>
    if v3 ≤ a1 then
      f_X5_memberAt_24 h2
    else
      (zgR h2 a0 5 6).bind fun v4 =>
      (zldR h2 v4 3 a1).bind fun v5 =>
      some ((some v5), h2)
noncomputable def f_X5_ladderOf (a0 : Nat) (a1 : Int32) (h : zHp) : Option (Option Nat × zHp) :=
  zb2 (f_X7_isRole a1 h) fun v1 h2 =>
  if v1 = 0 then
    some (none, h2)
  else
    (zgR h2 a0 5 7).bind fun v3 =>
    (zldR h2 v3 4 a1).bind fun v4 =>
    some ((some v4), h2)
noncomputable def f_X7_isSet_17_body (r17 : Int32 → Int32 → zHp → Option (Int32 × zHp)) (a1 : Int32) (a2 : Int32) (h : zHp) : Option (Int32 × zHp) :=
  if 4 ≤ a2 then
    zbool 1 h
  else
    (zrem a1 10).bind fun v1 =>
    if v1 ≤ 3 then
      (zdiv a1 10).bind fun v2 =>
      r17 v2 (a2 + 1) h
    else
      zbool 0 h
noncomputable def f_X7_isSet_17 : Nat → Int32 → Int32 → zHp → Option (Int32 × zHp)
  | 0 => fun _ _ _ => none
  | n + 1 => fun a1 a2 h => f_X7_isSet_17_body (f_X7_isSet_17 n) a1 a2 h
noncomputable def f_X7_isSet (a0 : Int32) (h : zHp) : Option (Int32 × zHp) :=
  zb2 (f_X7_isWithin a0 1 3333 h) fun v1 h2 =>
  if v1 = 0 then
    zbool 0 h2
  else
    f_X7_isSet_17 zN a0 0 h2
noncomputable def f_X5_refusalOf_60_body (r60 : Nat → Int32 → Int32 → Int32 → Nat → Int32 → Int32 → zHp → Option (Int32 × zHp)) (a0 : Nat) (a1 : Int32) (a2 : Int32) (a3 : Int32) (a5 : Nat) (a6 : Int32) (a7 : Int32) (h : zHp) : Option (Int32 × zHp) :=
  if a6 ≤ a7 then
    (zgI h a0 5 3).bind fun v1 =>
    if v1 < 48 then
      some (0, h)
    else
      some ((-3), h)
  else
    (zldR h a5 2 a7).bind fun v2 =>
    zb2 (zif (zis h v2 4) (f_X4_occupies v2 a1 a2 (a2 + a3) h)) fun v3 h4 =>
    if v3 = 0 then
      r60 a0 a1 a2 a3 a5 a6 (a7 + 1) h4
    else
      some ((-4), h4)
noncomputable def f_X5_refusalOf_60 : Nat → Nat → Int32 → Int32 → Int32 → Nat → Int32 → Int32 → zHp → Option (Int32 × zHp)
  | 0 => fun _ _ _ _ _ _ _ _ => none
  | n + 1 => fun a0 a1 a2 a3 a5 a6 a7 h => f_X5_refusalOf_60_body (f_X5_refusalOf_60 n) a0 a1 a2 a3 a5 a6 a7 h
noncomputable def f_X5_refusalOf (a0 : Nat) (a1 : Int32) (a2 : Int32) (a3 : Int32) (a4 : Int32) (h : zHp) : Option (Int32 × zHp) :=
  zb2 (f_X7_isWithin a1 0 5 h) fun v1 h2 =>
  if v1 = 0 then
    some ((-1), h2)
  else
    (zgI h2 a0 5 2).bind fun v3 =>
    zb2 (f_X7_isWithin a2 v3 900 h2) fun v4 h5 =>
    if v4 = 0 then
      some ((-2), h5)
    else
      zb2 (f_X7_isWithin a3 1 12 h5) fun v6 h7 =>
      if v6 = 0 then
        some ((-2), h7)
      else
        zb2 (f_X7_isSet a4 h7) fun v8 h9 =>
        if v8 = 0 then
          some ((-2), h9)
        else
          (zgR h9 a0 5 5).bind fun v10 =>
          (zlnR h9 v10 2).bind fun v11 =>
          f_X5_refusalOf_60 zN a0 a1 a2 a3 v10 v11 0 h9
noncomputable def f_X5_addSailing_89 (a0 : Nat) (a5 : Int32) (a6 : Nat) (a7 : Int32) (h : zHp) : Option (Int32 × zHp) :=
  (zgR h a0 5 5).bind fun v1 =>
  (zstR h v1 2 4 a7 a6).bind fun h2 =>
  (zgI h2 a0 5 3).bind fun v3 =>
  (zpV h2 a0 5 3 (.int (v3 + 1))).bind fun h4 =>
  some (a5, h4)
noncomputable def f_X5_addSailing_46_body (r46 : Nat → Int32 → Int32 → Nat → Int32 → zHp → Option (Int32 × zHp)) (a0 : Nat) (a2 : Int32) (a5 : Int32) (a6 : Nat) (a7 : Int32) (h : zHp) : Option (Int32 × zHp) :=
  if a7 ≤ 0 then
    f_X5_addSailing_89 a0 a5 a6 a7 h
  else
    (zgR h a0 5 5).bind fun v1 =>
    (zldR h v1 2 (a7 - 1)).bind fun v2 =>
    (zgI h v2 4 2).bind fun v3 =>
    if v3 ≤ a2 then
      f_X5_addSailing_89 a0 a5 a6 a7 h
    else
      (zgR h a0 5 5).bind fun v4 =>
      (zgR h a0 5 5).bind fun v5 =>
      (zldR h v5 2 (a7 - 1)).bind fun v6 =>
      (zstR h v4 2 4 a7 v6).bind fun h7 =>
      r46 a0 a2 a5 a6 (a7 + (-1)) h7
noncomputable def f_X5_addSailing_46 : Nat → Nat → Int32 → Int32 → Nat → Int32 → zHp → Option (Int32 × zHp)
  | 0 => fun _ _ _ _ _ _ => none
  | n + 1 => fun a0 a2 a5 a6 a7 h => f_X5_addSailing_46_body (f_X5_addSailing_46 n) a0 a2 a5 a6 a7 h
noncomputable def f_X5_addSailing (a0 : Nat) (a1 : Int32) (a2 : Int32) (a3 : Int32) (a4 : Int32) (h : zHp) : Option (Int32 × zHp) :=
  (zgI h a0 5 3).bind fun v1 =>
  if v1 < 0 then
    some ((-3), h)
  else
    if v1 < 48 then
      (zgR h a0 5 5).bind fun v2 =>
      (zldR h v2 2 v1).bind fun v3 =>
      (zif (zis h v3 4) (f_X4_come v3 v1 a1 a2 a3 a4 h)).bind fun h4 =>
      f_X5_addSailing_46 zN a0 a2 v1 v3 v1 h4
    else
      some ((-3), h)
noncomputable def f_X5_addMember (a0 : Nat) (a1 : Int32) (a2 : Int32) (h : zHp) : Option (Int32 × zHp) :=
  (zgI h a0 5 4).bind fun v1 =>
  zb2 (f_X7_isMemberNumber v1 h) fun v2 h3 =>
  if v2 = 0 then
    some ((-3), h3)
  else
    zb2 (f_X7_isRole a1 h3) fun v4 h5 =>
    if v4 = 0 then
      some ((-3), h5)
    else
      (zgI h5 a0 5 4).bind fun v6 =>
      (zpV h5 a0 5 4 (.int (v6 + 1))).bind fun h7 =>
      (zgR h7 a0 5 6).bind fun v8 =>
      (zldR h7 v8 3 v1).bind fun v9 =>
      zb2 (zif (zis h7 v9 3) (f_X3_replaceCertificate v9 a1 a2 h7)) fun v10 h11 =>
      (zgR h11 a0 5 7).bind fun v12 =>
      (zldR h11 v12 4 a1).bind fun v13 =>
      zb2 (zif (zis h11 v13 2) (f_X2_putLast v13 v1 h11)) fun v14 h15 =>
      some (v1, h15)
noncomputable def f_X5_needsCertificateAfter_57 (r14 : Int32 → Int32 → Int32 → Nat → Int32 → Int32 → zHp → Option (Int32 × zHp)) (a1 : Int32) (a2 : Int32) (a3 : Int32) (a4 : Nat) (a5 : Int32) (a6 : Int32) (h : zHp) : Option (Int32 × zHp) :=
  r14 a1 a2 a3 a4 a5 (a6 + 1) h
noncomputable def f_X5_needsCertificateAfter_14_body (r14 : Int32 → Int32 → Int32 → Nat → Int32 → Int32 → zHp → Option (Int32 × zHp)) (a1 : Int32) (a2 : Int32) (a3 : Int32) (a4 : Nat) (a5 : Int32) (a6 : Int32) (h : zHp) : Option (Int32 × zHp) :=
  if a5 ≤ a6 then
    zbool 0 h
  else
    (zldR h a4 2 a6).bind fun v1 =>
    zb2 (zif (zis h v1 4) (f_X4_isOpen v1 h)) fun v2 h3 =>
    if v2 = 0 then
      f_X5_needsCertificateAfter_57 r14 a1 a2 a3 a4 a5 a6 h3
    else
      (zgI h3 v1 4 3).bind fun v4 =>
      if v4 ≤ a3 then
        f_X5_needsCertificateAfter_57 r14 a1 a2 a3 a4 a5 a6 h3
      else
        zb2 (zif (zis h3 v1 4) (f_X4_roleOf v1 a1 h3)) fun v5 h6 =>
        if v5 = a2 then
          zbool 1 h6
        else
          f_X5_needsCertificateAfter_57 r14 a1 a2 a3 a4 a5 a6 h6
noncomputable def f_X5_needsCertificateAfter_14 : Nat → Int32 → Int32 → Int32 → Nat → Int32 → Int32 → zHp → Option (Int32 × zHp)
  | 0 => fun _ _ _ _ _ _ _ => none
  | n + 1 => fun a1 a2 a3 a4 a5 a6 h => f_X5_needsCertificateAfter_14_body (f_X5_needsCertificateAfter_14 n) a1 a2 a3 a4 a5 a6 h
noncomputable def f_X5_needsCertificateAfter (a0 : Nat) (a1 : Int32) (a2 : Int32) (a3 : Int32) (h : zHp) : Option (Int32 × zHp) :=
  (zgR h a0 5 5).bind fun v1 =>
  (zlnR h v1 2).bind fun v2 =>
  f_X5_needsCertificateAfter_14 zN a1 a2 a3 v1 v2 0 h
noncomputable def f_X5_dutiesOf_121 (r84 : Nat → Int32 → Option Nat → Nat → Int32 → Int32 → zHp → Option (Option Nat × zHp)) (a0 : Nat) (a1 : Int32) (a2 : Option Nat) (a3 : Nat) (a4 : Int32) (a5 : Int32) (h : zHp) : Option (Option Nat × zHp) :=
  r84 a0 a1 a2 a3 a4 (a5 + 1) h
noncomputable def f_X5_dutiesOf_112 (r84 : Nat → Int32 → Option Nat → Nat → Int32 → Int32 → zHp → Option (Option Nat × zHp)) (a0 : Nat) (a1 : Int32) (a2 : Option Nat) (a3 : Nat) (a4 : Int32) (a5 : Int32) (a6 : Nat) (h : zHp) : Option (Option Nat × zHp) :=
  (zgR h a0 5 0).bind fun v1 =>
  (zif (zis h v1 0) (f_X0_addHandover v1 a6 h)).bind fun h2 =>
  f_X5_dutiesOf_121 r84 a0 a1 a2 a3 a4 a5 h2
noncomputable def f_X5_dutiesOf_84_body (r84 : Nat → Int32 → Option Nat → Nat → Int32 → Int32 → zHp → Option (Option Nat × zHp)) (a0 : Nat) (a1 : Int32) (a2 : Option Nat) (a3 : Nat) (a4 : Int32) (a5 : Int32) (h : zHp) : Option (Option Nat × zHp) :=
  if a4 ≤ a5 then
    (zgR h a0 5 0).bind fun v1 =>
    some ((some v1), h)
  else
    (zldR h a3 2 a5).bind fun v2 =>
    if (some v2) = a2 then
      f_X5_dutiesOf_112 r84 a0 a1 a2 a3 a4 a5 v2 h
    else
      zb2 (zif (zis h v2 4) (f_X4_seats v2 a1 h)) fun v3 h4 =>
      if v3 = 0 then
        f_X5_dutiesOf_121 r84 a0 a1 a2 a3 a4 a5 h4
      else
        f_X5_dutiesOf_112 r84 a0 a1 a2 a3 a4 a5 v2 h4
noncomputable def f_X5_dutiesOf_84 : Nat → Nat → Int32 → Option Nat → Nat → Int32 → Int32 → zHp → Option (Option Nat × zHp)
  | 0 => fun _ _ _ _ _ _ _ => none
  | n + 1 => fun a0 a1 a2 a3 a4 a5 h => f_X5_dutiesOf_84_body (f_X5_dutiesOf_84 n) a0 a1 a2 a3 a4 a5 h
noncomputable def f_X5_dutiesOf_56 (r19 : Nat → Int32 → Option Nat → Nat → Int32 → Int32 → zHp → Option (Option Nat × zHp)) (a0 : Nat) (a1 : Int32) (a2 : Option Nat) (a3 : Nat) (a4 : Int32) (a5 : Int32) (h : zHp) : Option (Option Nat × zHp) :=
  r19 a0 a1 a2 a3 a4 (a5 + 1) h
noncomputable def f_X5_dutiesOf_47 (r19 : Nat → Int32 → Option Nat → Nat → Int32 → Int32 → zHp → Option (Option Nat × zHp)) (a0 : Nat) (a1 : Int32) (a2 : Option Nat) (a3 : Nat) (a4 : Int32) (a5 : Int32) (a6 : Nat) (h : zHp) : Option (Option Nat × zHp) :=
  (zgR h a0 5 0).bind fun v1 =>
  (zif (zis h v1 0) (f_X0_addSailing v1 a6 h)).bind fun h2 =>
  f_X5_dutiesOf_56 r19 a0 a1 a2 a3 a4 a5 h2
noncomputable def f_X5_dutiesOf_19_body (r19 : Nat → Int32 → Option Nat → Nat → Int32 → Int32 → zHp → Option (Option Nat × zHp)) (a0 : Nat) (a1 : Int32) (a2 : Option Nat) (a3 : Nat) (a4 : Int32) (a5 : Int32) (h : zHp) : Option (Option Nat × zHp) :=
  if a4 ≤ a5 then
    (zgR h a0 5 1).bind fun v1 =>
    (zld h v1 0 3).bind fun v2 =>
    if v2 = 1 then
      (zgR h a0 5 5).bind fun v4 =>
      (zlnR h v4 2).bind fun v5 =>
      f_X5_dutiesOf_84 zN a0 a1 a2 v4 v5 0 h
    else
      (zgR h a0 5 0).bind fun v3 =>
      some ((some v3), h)
  else
    (zldR h a3 2 a5).bind fun v6 =>
    if (some v6) = a2 then
      f_X5_dutiesOf_47 r19 a0 a1 a2 a3 a4 a5 v6 h
    else
      zb2 (zif (zis h v6 4) (f_X4_seats v6 a1 h)) fun v7 h8 =>
      if v7 = 0 then
        f_X5_dutiesOf_56 r19 a0 a1 a2 a3 a4 a5 h8
      else
        f_X5_dutiesOf_47 r19 a0 a1 a2 a3 a4 a5 v6 h8
noncomputable def f_X5_dutiesOf_19 : Nat → Nat → Int32 → Option Nat → Nat → Int32 → Int32 → zHp → Option (Option Nat × zHp)
  | 0 => fun _ _ _ _ _ _ _ => none
  | n + 1 => fun a0 a1 a2 a3 a4 a5 h => f_X5_dutiesOf_19_body (f_X5_dutiesOf_19 n) a0 a1 a2 a3 a4 a5 h
noncomputable def f_X5_dutiesOf (a0 : Nat) (a1 : Int32) (a2 : Option Nat) (h : zHp) : Option (Option Nat × zHp) :=
  (zgR h a0 5 0).bind fun v1 =>
  (zif (zis h v1 0) (f_X0_clear v1 h)).bind fun h2 =>
  (zgR h2 a0 5 5).bind fun v3 =>
  (zlnR h2 v3 2).bind fun v4 =>
  f_X5_dutiesOf_19 zN a0 a1 a2 v3 v4 0 h2
noncomputable def f_X5_restsHold_89 (h : zHp) : Option (Int32 × zHp) :=
  zbool 0 h
noncomputable def f_X5_restsHold (a0 : Nat) (a1 : Nat) (a2 : Int32) (a3 : Int32) (h : zHp) : Option (Int32 × zHp) :=
  (zgI h a1 0 3).bind fun v1 =>
  if v1 = 0 then
    (zgR h a0 5 1).bind fun v2 =>
    (zld h v2 0 0).bind fun v3 =>
    zb2 (zif (zis h a1 0) (f_X0_everyRowHas a1 v3 24 (zmax 0 ((a2 - 24) + 1)) a3 h)) fun v4 h5 =>
    if v4 = 0 then
      f_X5_restsHold_89 h5
    else
      (zgR h5 a0 5 1).bind fun v6 =>
      (zld h5 v6 0 1).bind fun v7 =>
      zb2 (zif (zis h5 a1 0) (f_X0_everyDayHasLongRest a1 v7 (zmax 0 ((a2 - 24) + 1)) a3 h5)) fun v8 h9 =>
      if v8 = 0 then
        f_X5_restsHold_89 h9
      else
        (zgR h9 a0 5 1).bind fun v10 =>
        (zld h9 v10 0 2).bind fun v11 =>
        zb2 (zif (zis h9 a1 0) (f_X0_everyRowHas a1 v11 168 (zmax 0 ((a2 - 168) + 1)) a3 h9)) fun v12 h13 =>
        if v12 = 0 then
          f_X5_restsHold_89 h13
        else
          zbool 1 h13
  else
    f_X5_restsHold_89 h
noncomputable def f_X5_allRestsHold_2_body (r2 : Nat → Int32 → zHp → Option (Int32 × zHp)) (a0 : Nat) (a1 : Int32) (h : zHp) : Option (Int32 × zHp) :=
  (zgI h a0 5 4).bind fun v1 =>
  if v1 ≤ a1 then
    zbool 1 h
  else
    zb2 (zif (zis h a0 5) (f_X5_dutiesOf a0 a1 none h)) fun w2 h3 =>
    zopt w2 none fun v4 =>
    (zgI h3 v4 0 2).bind fun v5 =>
    zb2 (zif (zis h3 a0 5) (f_X5_restsHold a0 v4 0 v5 h3)) fun v6 h7 =>
    if v6 = 0 then
      zbool 0 h7
    else
      r2 a0 (a1 + 1) h7
noncomputable def f_X5_allRestsHold_2 : Nat → Nat → Int32 → zHp → Option (Int32 × zHp)
  | 0 => fun _ _ _ => none
  | n + 1 => fun a0 a1 h => f_X5_allRestsHold_2_body (f_X5_allRestsHold_2 n) a0 a1 h
noncomputable def f_X5_allRestsHold (a0 : Nat) (h : zHp) : Option (Int32 × zHp) :=
  f_X5_allRestsHold_2 zN a0 0 h
noncomputable def f_X5_reasonAgainst (a0 : Nat) (a1 : Int32) (a2 : Nat) (a3 : Int32) (h : zHp) : Option (Int32 × zHp) :=
  zb2 (zif (zis h a0 5) (f_X5_memberAt a0 a1 h)) fun w1 h2 =>
  zopt w1
    (some (1, h2))
    fun v3 =>
    zb2 (zif (zis h2 a2 4) (f_X4_isOpen a2 h2)) fun v4 h5 =>
    if v4 = 0 then
      some (1, h5)
    else
      (zgI h5 a2 4 2).bind fun v6 =>
      (zgI h5 a0 5 2).bind fun v7 =>
      if v7 ≤ v6 then
        zb2 (zif (zis h5 a2 4) (f_X4_freePlacesOf a2 a3 h5)) fun v8 h9 =>
        if 0 < v8 then
          zb2 (zif (zis h9 v3 3) (f_X3_certificateOf v3 a3 h9)) fun v10 h11 =>
          (zgI h11 a2 4 3).bind fun v12 =>
          if v12 ≤ v10 then
            (zgI h11 a2 4 2).bind fun v13 =>
            (zgI h11 v3 3 1).bind fun v14 =>
            if v14 ≤ v13 then
              zb2 (zif (zis h11 a2 4) (f_X4_seats a2 a1 h11)) fun v15 h16 =>
              if v15 = 0 then
                zb2 (zif (zis h16 a0 5) (f_X5_dutiesOf a0 a1 (some a2) h16)) fun w17 h18 =>
                zopt w17 none fun v19 =>
                (zgI h18 a2 4 2).bind fun v20 =>
                (zgI h18 a2 4 3).bind fun v21 =>
                zb2 (zif (zis h18 a0 5) (f_X5_restsHold a0 v19 (v20 - 1) v21 h18)) fun v22 h23 =>
                if v22 = 0 then
                  some (6, h23)
                else
                  some (0, h23)
              else
                some (5, h16)
            else
              some (4, h11)
          else
            some (3, h11)
        else
          some (2, h9)
      else
        some (1, h5)
noncomputable def f_X5_coverPlace_76 (r15 : Nat → Nat → Int32 → Nat → Int32 → zHp → Option (Int32 × zHp)) (a0 : Nat) (a1 : Nat) (a2 : Int32) (a3 : Nat) (a4 : Int32) (h : zHp) : Option (Int32 × zHp) :=
  r15 a0 a1 a2 a3 (a4 + 1) h
noncomputable def f_X5_coverPlace_15_body (r15 : Nat → Nat → Int32 → Nat → Int32 → zHp → Option (Int32 × zHp)) (a0 : Nat) (a1 : Nat) (a2 : Int32) (a3 : Nat) (a4 : Int32) (h : zHp) : Option (Int32 × zHp) :=
  (zgI h a3 2 1).bind fun v1 =>
  if v1 ≤ a4 then
    zbool 0 h
  else
    zb2 (zif (zis h a3 2) (f_X2_memberOfRank a3 a4 h)) fun v2 h3 =>
    zb2 (zif (zis h3 a0 5) (f_X5_memberAt a0 v2 h3)) fun w4 h5 =>
    zopt w4
      (f_X5_coverPlace_76 r15 a0 a1 a2 a3 a4 h5)
      fun v6 =>
      zb2 (zif (zis h5 a0 5) (f_X5_reasonAgainst a0 v2 a1 a2 h5)) fun v7 h8 =>
      if v7 = 0 then
        (zif (zis h8 a1 4) (f_X4_seat a1 v2 a2 h8)).bind fun h9 =>
        (zgI h9 v6 3 2).bind fun v10 =>
        (zpV h9 v6 3 2 (.int (v10 + 1))).bind fun h11 =>
        zbool 1 h11
      else
        f_X5_coverPlace_76 r15 a0 a1 a2 a3 a4 h8
noncomputable def f_X5_coverPlace_15 : Nat → Nat → Nat → Int32 → Nat → Int32 → zHp → Option (Int32 × zHp)
  | 0 => fun _ _ _ _ _ _ => none
  | n + 1 => fun a0 a1 a2 a3 a4 h => f_X5_coverPlace_15_body (f_X5_coverPlace_15 n) a0 a1 a2 a3 a4 h
noncomputable def f_X5_coverPlace (a0 : Nat) (a1 : Nat) (a2 : Int32) (h : zHp) : Option (Int32 × zHp) :=
  zb2 (zif (zis h a0 5) (f_X5_ladderOf a0 a2 h)) fun w1 h2 =>
  zopt w1
    (zbool 0 h2)
    fun v3 =>
    f_X5_coverPlace_15 zN a0 a1 a2 v3 0 h2
noncomputable def f_X5_coverAllPlaces_13_body (r2 : Nat → Nat → Int32 → zHp → Option (Int32 × zHp)) (r13 : Nat → Nat → Int32 → Int32 → zHp → Option (Int32 × zHp)) (a0 : Nat) (a1 : Nat) (a2 : Int32) (a3 : Int32) (h : zHp) : Option (Int32 × zHp) :=
  if a3 ≤ 0 then
    r2 a0 a1 (a2 + 1) h
  else
    zb2 (zif (zis h a0 5) (f_X5_coverPlace a0 a1 a2 h)) fun v1 h2 =>
    r13 a0 a1 a2 (a3 + (-1)) h2
noncomputable def f_X5_coverAllPlaces_13 (r2 : Nat → Nat → Int32 → zHp → Option (Int32 × zHp)) : Nat → Nat → Nat → Int32 → Int32 → zHp → Option (Int32 × zHp)
  | 0 => fun _ _ _ _ _ => none
  | n + 1 => fun a0 a1 a2 a3 h => f_X5_coverAllPlaces_13_body r2 (f_X5_coverAllPlaces_13 r2 n) a0 a1 a2 a3 h
noncomputable def f_X5_coverAllPlaces_2_body (r2 : Nat → Nat → Int32 → zHp → Option (Int32 × zHp)) (a0 : Nat) (a1 : Nat) (a2 : Int32) (h : zHp) : Option (Int32 × zHp) :=
  if 4 ≤ a2 then
    zb2 (zif (zis h a1 4) (f_X4_freePlaces a1 h)) fun v1 h2 =>
    some (v1, h2)
  else
    zb2 (zif (zis h a1 4) (f_X4_freePlacesOf a1 a2 h)) fun v3 h4 =>
    f_X5_coverAllPlaces_13 r2 zN a0 a1 a2 v3 h4
noncomputable def f_X5_coverAllPlaces_2 : Nat → Nat → Nat → Int32 → zHp → Option (Int32 × zHp)
  | 0 => fun _ _ _ _ => none
  | n + 1 => fun a0 a1 a2 h => f_X5_coverAllPlaces_2_body (f_X5_coverAllPlaces_2 n) a0 a1 a2 h
noncomputable def f_X5_coverAllPlaces (a0 : Nat) (a1 : Nat) (h : zHp) : Option (Int32 × zHp) :=
  f_X5_coverAllPlaces_2 zN a0 a1 0 h
noncomputable def f_X5_fallSick_160 (r120 : Nat → Int32 → Nat → Int32 → Int32 → zHp → Option (Int32 × zHp)) (a0 : Nat) (a4 : Int32) (a5 : Nat) (a6 : Int32) (a7 : Int32) (h : zHp) : Option (Int32 × zHp) :=
  r120 a0 a4 a5 a6 (a7 + 1) h
noncomputable def f_X5_fallSick_120_body (r120 : Nat → Int32 → Nat → Int32 → Int32 → zHp → Option (Int32 × zHp)) (a0 : Nat) (a4 : Int32) (a5 : Nat) (a6 : Int32) (a7 : Int32) (h : zHp) : Option (Int32 × zHp) :=
  if a6 ≤ a7 then
    some (a4, h)
  else
    (zldR h a5 2 a7).bind fun v1 =>
    (zgI h v1 4 6).bind fun v2 =>
    if v2 = (-1) then
      f_X5_fallSick_160 r120 a0 a4 a5 a6 a7 h
    else
      (zgI h v1 4 6).bind fun v3 =>
      zb2 (zif (zis h a0 5) (f_X5_coverPlace a0 v1 v3 h)) fun v4 h5 =>
      if v4 = 0 then
        f_X5_fallSick_160 r120 a0 (a4 + 1) a5 a6 a7 h5
      else
        f_X5_fallSick_160 r120 a0 a4 a5 a6 a7 h5
noncomputable def f_X5_fallSick_120 : Nat → Nat → Int32 → Nat → Int32 → Int32 → zHp → Option (Int32 × zHp)
  | 0 => fun _ _ _ _ _ _ => none
  | n + 1 => fun a0 a4 a5 a6 a7 h => f_X5_fallSick_120_body (f_X5_fallSick_120 n) a0 a4 a5 a6 a7 h
noncomputable def f_X5_fallSick_94 (r36 : Nat → Int32 → Nat → Nat → Int32 → Int32 → zHp → Option (Int32 × zHp)) (a0 : Nat) (a1 : Int32) (a3 : Nat) (a4 : Nat) (a5 : Int32) (a6 : Int32) (s0 : Int32) (s1 : Nat) (h : zHp) : Option (Int32 × zHp) :=
  (zpV h s1 4 6 (.int s0)).bind fun h1 =>
  r36 a0 a1 a3 a4 a5 (a6 + 1) h1
noncomputable def f_X5_fallSick_75 (r36 : Nat → Int32 → Nat → Nat → Int32 → Int32 → zHp → Option (Int32 × zHp)) (a0 : Nat) (a1 : Int32) (a3 : Nat) (a4 : Nat) (a5 : Int32) (a6 : Int32) (a7 : Nat) (s0 : Int32) (h : zHp) : Option (Int32 × zHp) :=
  if s0 = 0 then
    f_X5_fallSick_94 r36 a0 a1 a3 a4 a5 a6 (-1) a7 h
  else
    zb2 (zif (zis h a7 4) (f_X4_unseat a7 a1 h)) fun v1 h2 =>
    f_X5_fallSick_94 r36 a0 a1 a3 a4 a5 a6 v1 a7 h2
noncomputable def f_X5_fallSick_74 (r36 : Nat → Int32 → Nat → Nat → Int32 → Int32 → zHp → Option (Int32 × zHp)) (a0 : Nat) (a1 : Int32) (a3 : Nat) (a4 : Nat) (a5 : Int32) (a6 : Int32) (a7 : Nat) (h : zHp) : Option (Int32 × zHp) :=
  f_X5_fallSick_75 r36 a0 a1 a3 a4 a5 a6 a7 0 h
noncomputable def f_X5_fallSick_36_body (r36 : Nat → Int32 → Nat → Nat → Int32 → Int32 → zHp → Option (Int32 × zHp)) (a0 : Nat) (a1 : Int32) (a3 : Nat) (a4 : Nat) (a5 : Int32) (a6 : Int32) (h : zHp) : Option (Int32 × zHp) :=
  if a5 ≤ a6 then
    (zgR h a0 5 5).bind fun v1 =>
    (zlnR h v1 2).bind fun v2 =>
    f_X5_fallSick_120 zN a0 0 v1 v2 0 h
  else
    (zldR h a4 2 a6).bind fun v3 =>
    zb2 (zif (zis h v3 4) (f_X4_isOpen v3 h)) fun v4 h5 =>
    if v4 = 0 then
      f_X5_fallSick_74 r36 a0 a1 a3 a4 a5 a6 v3 h5
    else
      (zgI h5 v3 4 2).bind fun v6 =>
      (zgI h5 a3 3 1).bind fun v7 =>
      if v7 ≤ v6 then
        f_X5_fallSick_74 r36 a0 a1 a3 a4 a5 a6 v3 h5
      else
        f_X5_fallSick_75 r36 a0 a1 a3 a4 a5 a6 v3 1 h5
noncomputable def f_X5_fallSick_36 : Nat → Nat → Int32 → Nat → Nat → Int32 → Int32 → zHp → Option (Int32 × zHp)
  | 0 => fun _ _ _ _ _ _ _ => none
  | n + 1 => fun a0 a1 a3 a4 a5 a6 h => f_X5_fallSick_36_body (f_X5_fallSick_36 n) a0 a1 a3 a4 a5 a6 h
noncomputable def f_X5_fallSick (a0 : Nat) (a1 : Int32) (a2 : Int32) (h : zHp) : Option (Int32 × zHp) :=
  zb2 (zif (zis h a0 5) (f_X5_memberAt a0 a1 h)) fun w1 h2 =>
  zopt w1
    (some ((-1), h2))
    fun v3 =>
    (zgI h2 a0 5 2).bind fun v4 =>
    (zpV h2 v3 3 1 (.int (v4 + a2))).bind fun h5 =>
    (zgR h5 a0 5 5).bind fun v6 =>
    (zlnR h5 v6 2).bind fun v7 =>
    f_X5_fallSick_36 zN a0 a1 v3 v6 v7 0 h5
noncomputable def f_X5_goOn_58 (r21 : Nat → Nat → Int32 → Int32 → zHp → Option (Int32 × zHp)) (a0 : Nat) (a2 : Nat) (a3 : Int32) (a4 : Int32) (h : zHp) : Option (Int32 × zHp) :=
  r21 a0 a2 a3 (a4 + 1) h
noncomputable def f_X5_goOn_21_body (r21 : Nat → Nat → Int32 → Int32 → zHp → Option (Int32 × zHp)) (a0 : Nat) (a2 : Nat) (a3 : Int32) (a4 : Int32) (h : zHp) : Option (Int32 × zHp) :=
  if a3 ≤ a4 then
    (zgI h a0 5 2).bind fun v1 =>
    some (v1, h)
  else
    (zldR h a2 2 a4).bind fun v2 =>
    zb2 (zif (zis h v2 4) (f_X4_isOpen v2 h)) fun v3 h4 =>
    if v3 = 0 then
      f_X5_goOn_58 r21 a0 a2 a3 a4 h4
    else
      (zgI h4 v2 4 2).bind fun v5 =>
      (zgI h4 a0 5 2).bind fun v6 =>
      if v6 ≤ v5 then
        f_X5_goOn_58 r21 a0 a2 a3 a4 h4
      else
        (zif (zis h4 v2 4) (f_X4_depart v2 h4)).bind fun h7 =>
        f_X5_goOn_58 r21 a0 a2 a3 a4 h7
noncomputable def f_X5_goOn_21 : Nat → Nat → Nat → Int32 → Int32 → zHp → Option (Int32 × zHp)
  | 0 => fun _ _ _ _ _ => none
  | n + 1 => fun a0 a2 a3 a4 h => f_X5_goOn_21_body (f_X5_goOn_21 n) a0 a2 a3 a4 h
noncomputable def f_X5_goOn (a0 : Nat) (a1 : Int32) (h : zHp) : Option (Int32 × zHp) :=
  (zgI h a0 5 2).bind fun v1 =>
  (zpV h a0 5 2 (.int (v1 + a1))).bind fun h2 =>
  (zgR h2 a0 5 5).bind fun v3 =>
  (zlnR h2 v3 2).bind fun v4 =>
  f_X5_goOn_21 zN a0 v3 v4 0 h2
noncomputable def f_X5_placesOf_51 (r16 : Int32 → Int32 → Int32 → Nat → Int32 → Int32 → zHp → Option (Int32 × zHp)) (a1 : Int32) (a2 : Int32) (a3 : Int32) (a4 : Nat) (a5 : Int32) (a6 : Int32) (h : zHp) : Option (Int32 × zHp) :=
  r16 a1 a2 a3 a4 a5 (a6 + 1) h
noncomputable def f_X5_placesOf_16_body (r16 : Int32 → Int32 → Int32 → Nat → Int32 → Int32 → zHp → Option (Int32 × zHp)) (a1 : Int32) (a2 : Int32) (a3 : Int32) (a4 : Nat) (a5 : Int32) (a6 : Int32) (h : zHp) : Option (Int32 × zHp) :=
  if a5 ≤ a6 then
    some (a3, h)
  else
    (zldR h a4 2 a6).bind fun v1 =>
    (zgI h v1 4 5).bind fun v2 =>
    if v2 = a2 then
      zb2 (zif (zis h v1 4) (f_X4_seats v1 a1 h)) fun v3 h4 =>
      if v3 = 0 then
        f_X5_placesOf_51 r16 a1 a2 a3 a4 a5 a6 h4
      else
        f_X5_placesOf_51 r16 a1 a2 (a3 + 1) a4 a5 a6 h4
    else
      f_X5_placesOf_51 r16 a1 a2 a3 a4 a5 a6 h
noncomputable def f_X5_placesOf_16 : Nat → Int32 → Int32 → Int32 → Nat → Int32 → Int32 → zHp → Option (Int32 × zHp)
  | 0 => fun _ _ _ _ _ _ _ => none
  | n + 1 => fun a1 a2 a3 a4 a5 a6 h => f_X5_placesOf_16_body (f_X5_placesOf_16 n) a1 a2 a3 a4 a5 a6 h
noncomputable def f_X5_placesOf (a0 : Nat) (a1 : Int32) (a2 : Int32) (h : zHp) : Option (Int32 × zHp) :=
  (zgR h a0 5 5).bind fun v1 =>
  (zlnR h v1 2).bind fun v2 =>
  f_X5_placesOf_16 zN a1 a2 0 v1 v2 0 h
noncomputable def f_X5_nextSailingOf_46 (r11 : Int32 → Nat → Int32 → Int32 → zHp → Option (Int32 × zHp)) (a1 : Int32) (a2 : Nat) (a3 : Int32) (a4 : Int32) (h : zHp) : Option (Int32 × zHp) :=
  r11 a1 a2 a3 (a4 + 1) h
noncomputable def f_X5_nextSailingOf_11_body (r11 : Int32 → Nat → Int32 → Int32 → zHp → Option (Int32 × zHp)) (a1 : Int32) (a2 : Nat) (a3 : Int32) (a4 : Int32) (h : zHp) : Option (Int32 × zHp) :=
  if a3 ≤ a4 then
    some ((-5), h)
  else
    (zldR h a2 2 a4).bind fun v1 =>
    zb2 (zif (zis h v1 4) (f_X4_isOpen v1 h)) fun v2 h3 =>
    if v2 = 0 then
      f_X5_nextSailingOf_46 r11 a1 a2 a3 a4 h3
    else
      zb2 (zif (zis h3 v1 4) (f_X4_seats v1 a1 h3)) fun v4 h5 =>
      if v4 = 0 then
        f_X5_nextSailingOf_46 r11 a1 a2 a3 a4 h5
      else
        (zgI h5 v1 4 0).bind fun v6 =>
        some (v6, h5)
noncomputable def f_X5_nextSailingOf_11 : Nat → Int32 → Nat → Int32 → Int32 → zHp → Option (Int32 × zHp)
  | 0 => fun _ _ _ _ _ => none
  | n + 1 => fun a1 a2 a3 a4 h => f_X5_nextSailingOf_11_body (f_X5_nextSailingOf_11 n) a1 a2 a3 a4 h
noncomputable def f_X5_nextSailingOf (a0 : Nat) (a1 : Int32) (h : zHp) : Option (Int32 × zHp) :=
  (zgR h a0 5 5).bind fun v1 =>
  (zlnR h v1 2).bind fun v2 =>
  f_X5_nextSailingOf_11 zN a1 v1 v2 0 h
noncomputable def f_X5_firstSailingWithFreePlace_42 (r10 : Nat → Int32 → Int32 → zHp → Option (Int32 × zHp)) (a1 : Nat) (a2 : Int32) (a3 : Int32) (h : zHp) : Option (Int32 × zHp) :=
  r10 a1 a2 (a3 + 1) h
noncomputable def f_X5_firstSailingWithFreePlace_10_body (r10 : Nat → Int32 → Int32 → zHp → Option (Int32 × zHp)) (a1 : Nat) (a2 : Int32) (a3 : Int32) (h : zHp) : Option (Int32 × zHp) :=
  if a2 ≤ a3 then
    some ((-5), h)
  else
    (zldR h a1 2 a3).bind fun v1 =>
    zb2 (zif (zis h v1 4) (f_X4_isOpen v1 h)) fun v2 h3 =>
    if v2 = 0 then
      f_X5_firstSailingWithFreePlace_42 r10 a1 a2 a3 h3
    else
      zb2 (zif (zis h3 v1 4) (f_X4_freePlaces v1 h3)) fun v4 h5 =>
      if v4 ≤ 0 then
        f_X5_firstSailingWithFreePlace_42 r10 a1 a2 a3 h5
      else
        (zgI h5 v1 4 0).bind fun v6 =>
        some (v6, h5)
noncomputable def f_X5_firstSailingWithFreePlace_10 : Nat → Nat → Int32 → Int32 → zHp → Option (Int32 × zHp)
  | 0 => fun _ _ _ _ => none
  | n + 1 => fun a1 a2 a3 h => f_X5_firstSailingWithFreePlace_10_body (f_X5_firstSailingWithFreePlace_10 n) a1 a2 a3 h
noncomputable def f_X5_firstSailingWithFreePlace (a0 : Nat) (h : zHp) : Option (Int32 × zHp) :=
  (zgR h a0 5 5).bind fun v1 =>
  (zlnR h v1 2).bind fun v2 =>
  f_X5_firstSailingWithFreePlace_10 zN v1 v2 0 h
noncomputable def f_X5_sailingsToBeCancelledBefore_55 (r14 : Int32 → Int32 → Nat → Int32 → Int32 → zHp → Option (Int32 × zHp)) (a1 : Int32) (a2 : Int32) (a3 : Nat) (a4 : Int32) (a5 : Int32) (h : zHp) : Option (Int32 × zHp) :=
  r14 a1 a2 a3 a4 (a5 + 1) h
noncomputable def f_X5_sailingsToBeCancelledBefore_14_body (r14 : Int32 → Int32 → Nat → Int32 → Int32 → zHp → Option (Int32 × zHp)) (a1 : Int32) (a2 : Int32) (a3 : Nat) (a4 : Int32) (a5 : Int32) (h : zHp) : Option (Int32 × zHp) :=
  if a4 ≤ a5 then
    some (a2, h)
  else
    (zldR h a3 2 a5).bind fun v1 =>
    zb2 (zif (zis h v1 4) (f_X4_isOpen v1 h)) fun v2 h3 =>
    if v2 = 0 then
      f_X5_sailingsToBeCancelledBefore_55 r14 a1 a2 a3 a4 a5 h3
    else
      (zgI h3 v1 4 2).bind fun v4 =>
      if a1 ≤ v4 then
        f_X5_sailingsToBeCancelledBefore_55 r14 a1 a2 a3 a4 a5 h3
      else
        zb2 (zif (zis h3 v1 4) (f_X4_freePlaces v1 h3)) fun v5 h6 =>
        if v5 ≤ 0 then
          f_X5_sailingsToBeCancelledBefore_55 r14 a1 a2 a3 a4 a5 h6
        else
          f_X5_sailingsToBeCancelledBefore_55 r14 a1 (a2 + 1) a3 a4 a5 h6
noncomputable def f_X5_sailingsToBeCancelledBefore_14 : Nat → Int32 → Int32 → Nat → Int32 → Int32 → zHp → Option (Int32 × zHp)
  | 0 => fun _ _ _ _ _ _ => none
  | n + 1 => fun a1 a2 a3 a4 a5 h => f_X5_sailingsToBeCancelledBefore_14_body (f_X5_sailingsToBeCancelledBefore_14 n) a1 a2 a3 a4 a5 h
noncomputable def f_X5_sailingsToBeCancelledBefore (a0 : Nat) (a1 : Int32) (h : zHp) : Option (Int32 × zHp) :=
  (zgR h a0 5 5).bind fun v1 =>
  (zlnR h v1 2).bind fun v2 =>
  f_X5_sailingsToBeCancelledBefore_14 zN a1 0 v1 v2 0 h
noncomputable def f_X5_sailingsThatAre_39 (r14 : Int32 → Int32 → Nat → Int32 → Int32 → zHp → Option (Int32 × zHp)) (a1 : Int32) (a2 : Int32) (a3 : Nat) (a4 : Int32) (a5 : Int32) (h : zHp) : Option (Int32 × zHp) :=
  r14 a1 a2 a3 a4 (a5 + 1) h
noncomputable def f_X5_sailingsThatAre_14_body (r14 : Int32 → Int32 → Nat → Int32 → Int32 → zHp → Option (Int32 × zHp)) (a1 : Int32) (a2 : Int32) (a3 : Nat) (a4 : Int32) (a5 : Int32) (h : zHp) : Option (Int32 × zHp) :=
  if a4 ≤ a5 then
    some (a2, h)
  else
    (zldR h a3 2 a5).bind fun v1 =>
    (zgI h v1 4 5).bind fun v2 =>
    if v2 = a1 then
      f_X5_sailingsThatAre_39 r14 a1 (a2 + 1) a3 a4 a5 h
    else
      f_X5_sailingsThatAre_39 r14 a1 a2 a3 a4 a5 h
noncomputable def f_X5_sailingsThatAre_14 : Nat → Int32 → Int32 → Nat → Int32 → Int32 → zHp → Option (Int32 × zHp)
  | 0 => fun _ _ _ _ _ _ => none
  | n + 1 => fun a1 a2 a3 a4 a5 h => f_X5_sailingsThatAre_14_body (f_X5_sailingsThatAre_14 n) a1 a2 a3 a4 a5 h
noncomputable def f_X5_sailingsThatAre (a0 : Nat) (a1 : Int32) (h : zHp) : Option (Int32 × zHp) :=
  (zgR h a0 5 5).bind fun v1 =>
  (zlnR h v1 2).bind fun v2 =>
  f_X5_sailingsThatAre_14 zN a1 0 v1 v2 0 h
noncomputable def f_X5_freeOpenPlaces_41 (r13 : Int32 → Nat → Int32 → Int32 → zHp → Option (Int32 × zHp)) (a1 : Int32) (a2 : Nat) (a3 : Int32) (a4 : Int32) (h : zHp) : Option (Int32 × zHp) :=
  r13 a1 a2 a3 (a4 + 1) h
noncomputable def f_X5_freeOpenPlaces_13_body (r13 : Int32 → Nat → Int32 → Int32 → zHp → Option (Int32 × zHp)) (a1 : Int32) (a2 : Nat) (a3 : Int32) (a4 : Int32) (h : zHp) : Option (Int32 × zHp) :=
  if a3 ≤ a4 then
    some (a1, h)
  else
    (zldR h a2 2 a4).bind fun v1 =>
    zb2 (zif (zis h v1 4) (f_X4_isOpen v1 h)) fun v2 h3 =>
    if v2 = 0 then
      f_X5_freeOpenPlaces_41 r13 a1 a2 a3 a4 h3
    else
      zb2 (zif (zis h3 v1 4) (f_X4_freePlaces v1 h3)) fun v4 h5 =>
      f_X5_freeOpenPlaces_41 r13 (a1 + v4) a2 a3 a4 h5
noncomputable def f_X5_freeOpenPlaces_13 : Nat → Int32 → Nat → Int32 → Int32 → zHp → Option (Int32 × zHp)
  | 0 => fun _ _ _ _ _ => none
  | n + 1 => fun a1 a2 a3 a4 h => f_X5_freeOpenPlaces_13_body (f_X5_freeOpenPlaces_13 n) a1 a2 a3 a4 h
noncomputable def f_X5_freeOpenPlaces (a0 : Nat) (h : zHp) : Option (Int32 × zHp) :=
  (zgR h a0 5 5).bind fun v1 =>
  (zlnR h v1 2).bind fun v2 =>
  f_X5_freeOpenPlaces_13 zN 0 v1 v2 0 h
noncomputable def f_X5_takenOpenPlaces_41 (r13 : Int32 → Nat → Int32 → Int32 → zHp → Option (Int32 × zHp)) (a1 : Int32) (a2 : Nat) (a3 : Int32) (a4 : Int32) (h : zHp) : Option (Int32 × zHp) :=
  r13 a1 a2 a3 (a4 + 1) h
noncomputable def f_X5_takenOpenPlaces_13_body (r13 : Int32 → Nat → Int32 → Int32 → zHp → Option (Int32 × zHp)) (a1 : Int32) (a2 : Nat) (a3 : Int32) (a4 : Int32) (h : zHp) : Option (Int32 × zHp) :=
  if a3 ≤ a4 then
    some (a1, h)
  else
    (zldR h a2 2 a4).bind fun v1 =>
    zb2 (zif (zis h v1 4) (f_X4_isOpen v1 h)) fun v2 h3 =>
    if v2 = 0 then
      f_X5_takenOpenPlaces_41 r13 a1 a2 a3 a4 h3
    else
      zb2 (zif (zis h3 v1 4) (f_X4_takenPlaces v1 h3)) fun v4 h5 =>
      f_X5_takenOpenPlaces_41 r13 (a1 + v4) a2 a3 a4 h5
noncomputable def f_X5_takenOpenPlaces_13 : Nat → Int32 → Nat → Int32 → Int32 → zHp → Option (Int32 × zHp)
  | 0 => fun _ _ _ _ _ => none
  | n + 1 => fun a1 a2 a3 a4 h => f_X5_takenOpenPlaces_13_body (f_X5_takenOpenPlaces_13 n) a1 a2 a3 a4 h
noncomputable def f_X5_takenOpenPlaces (a0 : Nat) (h : zHp) : Option (Int32 × zHp) :=
  (zgR h a0 5 5).bind fun v1 =>
  (zlnR h v1 2).bind fun v2 =>
  f_X5_takenOpenPlaces_13 zN 0 v1 v2 0 h
noncomputable def f_X5_membersSickNow_40 (r13 : Nat → Int32 → Nat → Int32 → Int32 → zHp → Option (Int32 × zHp)) (a0 : Nat) (a1 : Int32) (a2 : Nat) (a3 : Int32) (a4 : Int32) (h : zHp) : Option (Int32 × zHp) :=
  r13 a0 a1 a2 a3 (a4 + 1) h
noncomputable def f_X5_membersSickNow_13_body (r13 : Nat → Int32 → Nat → Int32 → Int32 → zHp → Option (Int32 × zHp)) (a0 : Nat) (a1 : Int32) (a2 : Nat) (a3 : Int32) (a4 : Int32) (h : zHp) : Option (Int32 × zHp) :=
  if a3 ≤ a4 then
    some (a1, h)
  else
    (zldR h a2 3 a4).bind fun v1 =>
    (zgI h v1 3 1).bind fun v2 =>
    (zgI h a0 5 2).bind fun v3 =>
    if v2 ≤ v3 then
      f_X5_membersSickNow_40 r13 a0 a1 a2 a3 a4 h
    else
      f_X5_membersSickNow_40 r13 a0 (a1 + 1) a2 a3 a4 h
noncomputable def f_X5_membersSickNow_13 : Nat → Nat → Int32 → Nat → Int32 → Int32 → zHp → Option (Int32 × zHp)
  | 0 => fun _ _ _ _ _ _ => none
  | n + 1 => fun a0 a1 a2 a3 a4 h => f_X5_membersSickNow_13_body (f_X5_membersSickNow_13 n) a0 a1 a2 a3 a4 h
noncomputable def f_X5_membersSickNow (a0 : Nat) (h : zHp) : Option (Int32 × zHp) :=
  (zgR h a0 5 6).bind fun v1 =>
  (zlnR h v1 3).bind fun v2 =>
  f_X5_membersSickNow_13 zN a0 0 v1 v2 0 h
noncomputable def f_X5_allCovers_13_body (r13 : Int32 → Nat → Int32 → Int32 → zHp → Option (Int32 × zHp)) (a1 : Int32) (a2 : Nat) (a3 : Int32) (a4 : Int32) (h : zHp) : Option (Int32 × zHp) :=
  if a3 ≤ a4 then
    some (a1, h)
  else
    (zldR h a2 3 a4).bind fun v1 =>
    (zgI h v1 3 2).bind fun v2 =>
    r13 (a1 + v2) a2 a3 (a4 + 1) h
noncomputable def f_X5_allCovers_13 : Nat → Int32 → Nat → Int32 → Int32 → zHp → Option (Int32 × zHp)
  | 0 => fun _ _ _ _ _ => none
  | n + 1 => fun a1 a2 a3 a4 h => f_X5_allCovers_13_body (f_X5_allCovers_13 n) a1 a2 a3 a4 h
noncomputable def f_X5_allCovers (a0 : Nat) (h : zHp) : Option (Int32 × zHp) :=
  (zgR h a0 5 6).bind fun v1 =>
  (zlnR h v1 3).bind fun v2 =>
  f_X5_allCovers_13 zN 0 v1 v2 0 h
noncomputable def f_X5_hoursBeyond (a0 : Nat) (a1 : Nat) (a2 : Int32) (h : zHp) : Option (Int32 × zHp) :=
  zb2 (zif (zis h a1 0) (f_X0_restIn a1 (a2 * 168) 168 h)) fun v1 h2 =>
  (zgR h2 a0 5 1).bind fun v3 =>
  (zld h2 v3 0 4).bind fun v4 =>
  some ((zmax 0 ((168 - v1) - v4)), h2)
noncomputable def f_X5_allHoursBeyond_22_body (r4 : Nat → Int32 → Int32 → zHp → Option (Int32 × zHp)) (r22 : Nat → Int32 → Int32 → Nat → Int32 → zHp → Option (Int32 × zHp)) (a0 : Nat) (a1 : Int32) (a2 : Int32) (a3 : Nat) (a4 : Int32) (h : zHp) : Option (Int32 × zHp) :=
  if 6 ≤ a4 then
    r4 a0 a1 (a2 + 1) h
  else
    zb2 (zif (zis h a0 5) (f_X5_hoursBeyond a0 a3 a4 h)) fun v1 h2 =>
    r22 a0 (a1 + v1) a2 a3 (a4 + 1) h2
noncomputable def f_X5_allHoursBeyond_22 (r4 : Nat → Int32 → Int32 → zHp → Option (Int32 × zHp)) : Nat → Nat → Int32 → Int32 → Nat → Int32 → zHp → Option (Int32 × zHp)
  | 0 => fun _ _ _ _ _ _ => none
  | n + 1 => fun a0 a1 a2 a3 a4 h => f_X5_allHoursBeyond_22_body r4 (f_X5_allHoursBeyond_22 r4 n) a0 a1 a2 a3 a4 h
noncomputable def f_X5_allHoursBeyond_4_body (r4 : Nat → Int32 → Int32 → zHp → Option (Int32 × zHp)) (a0 : Nat) (a1 : Int32) (a2 : Int32) (h : zHp) : Option (Int32 × zHp) :=
  (zgI h a0 5 4).bind fun v1 =>
  if v1 ≤ a2 then
    some (a1, h)
  else
    zb2 (zif (zis h a0 5) (f_X5_dutiesOf a0 a2 none h)) fun w2 h3 =>
    zopt w2 none fun v4 =>
    f_X5_allHoursBeyond_22 r4 zN a0 a1 a2 v4 0 h3
noncomputable def f_X5_allHoursBeyond_4 : Nat → Nat → Int32 → Int32 → zHp → Option (Int32 × zHp)
  | 0 => fun _ _ _ _ => none
  | n + 1 => fun a0 a1 a2 h => f_X5_allHoursBeyond_4_body (f_X5_allHoursBeyond_4 n) a0 a1 a2 h
noncomputable def f_X5_allHoursBeyond (a0 : Nat) (h : zHp) : Option (Int32 × zHp) :=
  f_X5_allHoursBeyond_4 zN a0 0 0 h
noncomputable def f_X6_init (a0 : Nat) (h : zHp) : Option zHp :=
  znm h.1 fun q1 => znm (zadd h (.inl (1, 60, fun _ => 0))) fun h2 =>
  (zpV h2 a0 6 0 (.ref q1)).bind fun h3 =>
  znm h3.1 fun q4 => znm (zadd h3 (.inl (0, 6, fun _ => 0))) fun h5 =>
  (zpV h5 a0 6 4 (.ref q4)).bind fun h6 =>
  znm h6.1 fun q7 => znm (zadd h6 (.inl (0, 6, fun _ => 0))) fun h8 =>
  (zpV h8 a0 6 5 (.ref q7)).bind fun h9 =>
  znm h9.1 fun q10 => znm (zadd h9 (.inl (0, 6, fun _ => 0))) fun h11 =>
  (zpV h11 a0 6 6 (.ref q10)).bind fun h12 =>
  znm h12.1 fun q13 => znm (zadd h12 (.inl (0, 6, fun _ => 0))) fun h14 =>
  (zpV h14 a0 6 7 (.ref q13)).bind fun h15 =>
  some h15
noncomputable def f_X6_append (a0 : Nat) (a1 : Int32) (h : zHp) : Option (Int32 × zHp) :=
  (zgI h a0 6 1).bind fun v1 =>
  zb2 (f_X7_isWithin v1 0 59 h) fun v2 h3 =>
  if v2 = 0 then
    some ((-3), h3)
  else
    (zgR h3 a0 6 0).bind fun v4 =>
    (zgI h3 a0 6 1).bind fun v5 =>
    (zst h3 v4 1 v5 (vp_nar .char a1)).bind fun h6 =>
    (zgI h6 a0 6 1).bind fun v7 =>
    (zpV h6 a0 6 1 (.int (v7 + 1))).bind fun h8 =>
    (zgI h8 a0 6 1).bind fun v9 =>
    some (v9, h8)
noncomputable def f_X6_nextDigit (a0 : Nat) (h : zHp) : Option (Int32 × zHp) :=
  (zgI h a0 6 2).bind fun v1 =>
  if v1 < 0 then
    some ((-1), h)
  else
    (zgI h a0 6 2).bind fun v2 =>
    (zgI h a0 6 1).bind fun v3 =>
    if v3 ≤ v2 then
      some ((-1), h)
    else
      (zgI h a0 6 2).bind fun v4 =>
      if v4 < 60 then
        (zgR h a0 6 0).bind fun v5 =>
        (zgI h a0 6 2).bind fun v6 =>
        (zld h v5 1 v6).bind fun v7 =>
        zb2 (f_X7_isWithin (v7 - 48) 0 9 h) fun v8 h9 =>
        if v8 = 0 then
          some ((-1), h9)
        else
          some ((v7 - 48), h9)
      else
        some ((-1), h)
noncomputable def f_X6_readNumber_31_body (r31 : Nat → Int32 → Int32 → zHp → Option (Int32 × zHp)) (a0 : Nat) (a2 : Int32) (a3 : Int32) (h : zHp) : Option (Int32 × zHp) :=
  (zgI h a0 6 2).bind fun v1 =>
  (zgI h a0 6 1).bind fun v2 =>
  if v2 ≤ v1 then
    some (a3, h)
  else
    zb2 (zif (zis h a0 6) (f_X6_nextDigit a0 h)) fun v3 h4 =>
    if v3 = (-1) then
      some (a3, h4)
    else
      if a3 = 0 then
        some (a3, h4)
      else
        if ((a3 * 10) + v3) ≤ a2 then
          (zgI h4 a0 6 2).bind fun v5 =>
          (zpV h4 a0 6 2 (.int (v5 + 1))).bind fun h6 =>
          r31 a0 a2 ((a3 * 10) + v3) h6
        else
          some (a3, h4)
noncomputable def f_X6_readNumber_31 : Nat → Nat → Int32 → Int32 → zHp → Option (Int32 × zHp)
  | 0 => fun _ _ _ _ => none
  | n + 1 => fun a0 a2 a3 h => f_X6_readNumber_31_body (f_X6_readNumber_31 n) a0 a2 a3 h
noncomputable def f_X6_readNumber (a0 : Nat) (a1 : Int32) (a2 : Int32) (h : zHp) : Option (Int32 × zHp) :=
  zb2 (zif (zis h a0 6) (f_X6_nextDigit a0 h)) fun v1 h2 =>
  if v1 = (-1) then
    some ((-1), h2)
  else
    zb2 (f_X7_isWithin v1 a1 a2 h2) fun v3 h4 =>
    if v3 = 0 then
      some ((-1), h4)
    else
      (zgI h4 a0 6 2).bind fun v5 =>
      (zpV h4 a0 6 2 (.int (v5 + 1))).bind fun h6 =>
      f_X6_readNumber_31 zN a0 a2 v1 h6
noncomputable def f_X6_accept (a0 : Nat) (a1 : Int32) (h : zHp) : Option (Int32 × zHp) :=
  (zgI h a0 6 2).bind fun v1 =>
  if v1 < 0 then
    zbool 0 h
  else
    (zgI h a0 6 2).bind fun v2 =>
    (zgI h a0 6 1).bind fun v3 =>
    if v3 ≤ v2 then
      zbool 0 h
    else
      (zgI h a0 6 2).bind fun v4 =>
      if 60 ≤ v4 then
        zbool 0 h
      else
        (zgR h a0 6 0).bind fun v5 =>
        (zgI h a0 6 2).bind fun v6 =>
        (zld h v5 1 v6).bind fun v7 =>
        if v7 = a1 then
          (zgI h a0 6 2).bind fun v8 =>
          (zpV h a0 6 2 (.int (v8 + 1))).bind fun h9 =>
          zbool 1 h9
        else
          zbool 0 h
noncomputable def f_X6_readSet_4_body (r4 : Nat → Int32 → Int32 → zHp → Option (Int32 × zHp)) (a0 : Nat) (a1 : Int32) (a2 : Int32) (h : zHp) : Option (Int32 × zHp) :=
  if 4 ≤ a2 then
    some (a1, h)
  else
    zb2 (zif (zis h a0 6) (f_X6_nextDigit a0 h)) fun v1 h2 =>
    zb2 (f_X7_isWithin v1 0 3 h2) fun v3 h4 =>
    if v3 = 0 then
      some ((-1), h4)
    else
      (zgI h4 a0 6 2).bind fun v5 =>
      (zpV h4 a0 6 2 (.int (v5 + 1))).bind fun h6 =>
      r4 a0 ((a1 * 10) + v1) (a2 + 1) h6
noncomputable def f_X6_readSet_4 : Nat → Nat → Int32 → Int32 → zHp → Option (Int32 × zHp)
  | 0 => fun _ _ _ _ => none
  | n + 1 => fun a0 a1 a2 h => f_X6_readSet_4_body (f_X6_readSet_4 n) a0 a1 a2 h
noncomputable def f_X6_readSet (a0 : Nat) (h : zHp) : Option (Int32 × zHp) :=
  f_X6_readSet_4 zN a0 0 0 h
noncomputable def f_X6_readSailing (a0 : Nat) (h : zHp) : Option (Int32 × zHp) :=
  zb2 (zif (zis h a0 6) (f_X6_readNumber a0 0 5 h)) fun v1 h2 =>
  if v1 = (-1) then
    zbool 0 h2
  else
    zb2 (zif (zis h2 a0 6) (f_X6_accept a0 58 h2)) fun v3 h4 =>
    if v3 = 0 then
      zbool 0 h4
    else
      zb2 (zif (zis h4 a0 6) (f_X6_readNumber a0 0 900 h4)) fun v5 h6 =>
      if v5 = (-1) then
        zbool 0 h6
      else
        zb2 (zif (zis h6 a0 6) (f_X6_accept a0 43 h6)) fun v7 h8 =>
        if v7 = 0 then
          zbool 0 h8
        else
          zb2 (zif (zis h8 a0 6) (f_X6_readNumber a0 1 12 h8)) fun v9 h10 =>
          if v9 = (-1) then
            zbool 0 h10
          else
            zb2 (zif (zis h10 a0 6) (f_X6_accept a0 61 h10)) fun v11 h12 =>
            if v11 = 0 then
              zbool 0 h12
            else
              zb2 (zif (zis h12 a0 6) (f_X6_readSet a0 h12)) fun v13 h14 =>
              if v13 = (-1) then
                zbool 0 h14
              else
                (zgI h14 a0 6 3).bind fun v15 =>
                zb2 (f_X7_isWithin v15 0 5 h14) fun v16 h17 =>
                if v16 = 0 then
                  zbool 0 h17
                else
                  (zgR h17 a0 6 4).bind fun v18 =>
                  (zgI h17 a0 6 3).bind fun v19 =>
                  (zst h17 v18 0 v19 v1).bind fun h20 =>
                  (zgR h20 a0 6 5).bind fun v21 =>
                  (zgI h20 a0 6 3).bind fun v22 =>
                  (zst h20 v21 0 v22 v5).bind fun h23 =>
                  (zgR h23 a0 6 6).bind fun v24 =>
                  (zgI h23 a0 6 3).bind fun v25 =>
                  (zst h23 v24 0 v25 v9).bind fun h26 =>
                  (zgR h26 a0 6 7).bind fun v27 =>
                  (zgI h26 a0 6 3).bind fun v28 =>
                  (zst h26 v27 0 v28 v13).bind fun h29 =>
                  (zgI h29 a0 6 3).bind fun v30 =>
                  (zpV h29 a0 6 3 (.int (v30 + 1))).bind fun h31 =>
                  zbool 1 h31
noncomputable def f_X6_readAll_12_body (r12 : Nat → Int32 → zHp → Option (Int32 × zHp)) (a0 : Nat) (a1 : Int32) (h : zHp) : Option (Int32 × zHp) :=
  if 6 ≤ a1 then
    (zgI h a0 6 2).bind fun v1 =>
    some (v1, h)
  else
    zb2 (zif (zis h a0 6) (f_X6_readSailing a0 h)) fun v2 h3 =>
    if v2 = 0 then
      (zgI h3 a0 6 2).bind fun v9 =>
      some (v9, h3)
    else
      (zgI h3 a0 6 2).bind fun v4 =>
      (zgI h3 a0 6 1).bind fun v5 =>
      if v4 = v5 then
        some ((-5), h3)
      else
        zb2 (zif (zis h3 a0 6) (f_X6_accept a0 59 h3)) fun v6 h7 =>
        if v6 = 0 then
          (zgI h7 a0 6 2).bind fun v8 =>
          some (v8, h7)
        else
          r12 a0 (a1 + 1) h7
noncomputable def f_X6_readAll_12 : Nat → Nat → Int32 → zHp → Option (Int32 × zHp)
  | 0 => fun _ _ _ => none
  | n + 1 => fun a0 a1 h => f_X6_readAll_12_body (f_X6_readAll_12 n) a0 a1 h
noncomputable def f_X6_readAll (a0 : Nat) (h : zHp) : Option (Int32 × zHp) :=
  (zpV h a0 6 2 (.int 0)).bind fun h1 =>
  (zpV h1 a0 6 3 (.int 0)).bind fun h2 =>
  f_X6_readAll_12 zN a0 0 h2
noncomputable def f_X7_init (a0 : Nat) (h : zHp) : Option zHp :=
  znm h.1 fun q1 => znm (zadd h (.inr (.inr (0, [.null, .int 0, .int 0, .int 0])))) fun h2 =>
  (f_X0_init q1 h2).bind fun h3 =>
  znm h3.1 fun q4 => znm (zadd h3 (.inr (.inr (5, [.null, .null, .int 0, .int 0, .int 0, .null, .null, .null])))) fun h5 =>
  (f_X5_init q4 q1 h5).bind fun h6 =>
  (zpV h6 a0 7 0 (.ref q4)).bind fun h7 =>
  znm h7.1 fun q8 => znm (zadd h7 (.inr (.inr (5, [.null, .null, .int 0, .int 0, .int 0, .null, .null, .null])))) fun h9 =>
  (f_X5_init q8 q1 h9).bind fun h10 =>
  (zpV h10 a0 7 1 (.ref q8)).bind fun h11 =>
  znm h11.1 fun q12 => znm (zadd h11 (.inr (.inr (5, [.null, .null, .int 0, .int 0, .int 0, .null, .null, .null])))) fun h13 =>
  (f_X5_init q12 q1 h13).bind fun h14 =>
  (zpV h14 a0 7 2 (.ref q12)).bind fun h15 =>
  znm h15.1 fun q16 => znm (zadd h15 (.inr (.inr (1, [.null, .int 0])))) fun h17 =>
  (f_X1_init q16 q1 h17).bind fun h18 =>
  (zpV h18 a0 7 3 (.ref q16)).bind fun h19 =>
  znm h19.1 fun q20 => znm (zadd h19 (.inr (.inr (6, [.null, .int 0, .int 0, .int 0, .null, .null, .null, .null])))) fun h21 =>
  (f_X6_init q20 h21).bind fun h22 =>
  (zpV h22 a0 7 4 (.ref q20)).bind fun h23 =>
  (zpV h23 a0 7 5 (.int 0)).bind fun h24 =>
  some h24
noncomputable def f_X7_sailing (a0 : Nat) (a1 : Int32) (a2 : Int32) (a3 : Int32) (a4 : Int32) (h : zHp) : Option (Int32 × zHp) :=
  (zgR h a0 7 0).bind fun v1 =>
  zb2 (zif (zis h v1 5) (f_X5_refusalOf v1 a1 a2 a3 a4 h)) fun v2 h3 =>
  if 0 ≤ v2 then
    (zgR h3 a0 7 3).bind fun v4 =>
    (zgR h3 a0 7 0).bind fun v5 =>
    (zif (zis h3 v4 1) (f_X1_record v4 v5 h3)).bind fun h6 =>
    (zgR h6 a0 7 0).bind fun v7 =>
    zb2 (zif (zis h6 v7 5) (f_X5_addSailing v7 a1 a2 a3 a4 h6)) fun v8 h9 =>
    some (v8, h9)
  else
    some (v2, h3)
noncomputable def f_X7_addReadSailings_2_body (r2 : Nat → Nat → Int32 → zHp → Option (Int32 × zHp)) (a0 : Nat) (a1 : Nat) (a2 : Int32) (h : zHp) : Option (Int32 × zHp) :=
  (zgR h a0 7 4).bind fun v1 =>
  (zgI h v1 6 3).bind fun v2 =>
  if v2 ≤ a2 then
    some (0, h)
  else
    if 6 ≤ a2 then
      some (0, h)
    else
      (zgR h a0 7 4).bind fun v3 =>
      (zgR h v3 6 4).bind fun v4 =>
      (zld h v4 0 a2).bind fun v5 =>
      (zgR h a0 7 4).bind fun v6 =>
      (zgR h v6 6 5).bind fun v7 =>
      (zld h v7 0 a2).bind fun v8 =>
      (zgR h a0 7 4).bind fun v9 =>
      (zgR h v9 6 6).bind fun v10 =>
      (zld h v10 0 a2).bind fun v11 =>
      (zgR h a0 7 4).bind fun v12 =>
      (zgR h v12 6 7).bind fun v13 =>
      (zld h v13 0 a2).bind fun v14 =>
      zb2 (zif (zis h a1 5) (f_X5_refusalOf a1 v5 v8 v11 v14 h)) fun v15 h16 =>
      if 0 ≤ v15 then
        zb2 (zif (zis h16 a1 5) (f_X5_addSailing a1 v5 v8 v11 v14 h16)) fun v17 h18 =>
        r2 a0 a1 (a2 + 1) h18
      else
        some (v15, h16)
noncomputable def f_X7_addReadSailings_2 : Nat → Nat → Nat → Int32 → zHp → Option (Int32 × zHp)
  | 0 => fun _ _ _ _ => none
  | n + 1 => fun a0 a1 a2 h => f_X7_addReadSailings_2_body (f_X7_addReadSailings_2 n) a0 a1 a2 h
noncomputable def f_X7_addReadSailings (a0 : Nat) (a1 : Nat) (h : zHp) : Option (Int32 × zHp) :=
  f_X7_addReadSailings_2 zN a0 a1 0 h
noncomputable def f_X7_sailings (a0 : Nat) (h : zHp) : Option (Int32 × zHp) :=
  (zgR h a0 7 4).bind fun v1 =>
  zb2 (zif (zis h v1 6) (f_X6_readAll v1 h)) fun v2 h3 =>
  if v2 = (-5) then
    (zgR h3 a0 7 2).bind fun v4 =>
    (zgR h3 a0 7 0).bind fun v5 =>
    (zif (zis h3 v4 5) (f_X5_copyFrom v4 v5 h3)).bind fun h6 =>
    (zgR h6 a0 7 2).bind fun v7 =>
    zb2 (zif (zis h6 a0 7) (f_X7_addReadSailings a0 v7 h6)) fun v8 h9 =>
    if 0 ≤ v8 then
      (zgR h9 a0 7 3).bind fun v10 =>
      (zgR h9 a0 7 0).bind fun v11 =>
      (zif (zis h9 v10 1) (f_X1_record v10 v11 h9)).bind fun h12 =>
      (zgR h12 a0 7 0).bind fun v13 =>
      (zgR h12 a0 7 2).bind fun v14 =>
      (zif (zis h12 v13 5) (f_X5_copyFrom v13 v14 h12)).bind fun h15 =>
      (zgR h15 a0 7 4).bind fun v16 =>
      (zgI h15 v16 6 3).bind fun v17 =>
      some (v17, h15)
    else
      some (v8, h9)
  else
    some (((-100) - v2), h3)
noncomputable def f_X7_cancel (a0 : Nat) (a1 : Int32) (h : zHp) : Option (Int32 × zHp) :=
  (zgR h a0 7 0).bind fun v1 =>
  zb2 (zif (zis h v1 5) (f_X5_sailingAt v1 a1 h)) fun w2 h3 =>
  zopt w2
    (some ((-1), h3))
    fun v4 =>
    zb2 (zif (zis h3 v4 4) (f_X4_isOpen v4 h3)) fun v5 h6 =>
    if v5 = 0 then
      some ((-4), h6)
    else
      (zgR h6 a0 7 3).bind fun v7 =>
      (zgR h6 a0 7 0).bind fun v8 =>
      (zif (zis h6 v7 1) (f_X1_record v7 v8 h6)).bind fun h9 =>
      zb2 (zif (zis h9 v4 4) (f_X4_callOff v4 h9)) fun v10 h11 =>
      some (v10, h11)
noncomputable def f_X7_member (a0 : Nat) (a1 : Int32) (a2 : Int32) (h : zHp) : Option (Int32 × zHp) :=
  zb2 (f_X7_isRole a1 h) fun v1 h2 =>
  if v1 = 0 then
    some ((-1), h2)
  else
    zb2 (f_X7_isWithin a2 0 9999 h2) fun v3 h4 =>
    if v3 = 0 then
      some ((-2), h4)
    else
      (zgR h4 a0 7 0).bind fun v5 =>
      (zgI h4 v5 5 4).bind fun v6 =>
      if v6 < 12 then
        (zgR h4 a0 7 3).bind fun v7 =>
        (zgR h4 a0 7 0).bind fun v8 =>
        (zif (zis h4 v7 1) (f_X1_record v7 v8 h4)).bind fun h9 =>
        (zgR h9 a0 7 0).bind fun v10 =>
        zb2 (zif (zis h9 v10 5) (f_X5_addMember v10 a1 a2 h9)) fun v11 h12 =>
        some (v11, h12)
      else
        some ((-3), h4)
noncomputable def f_X7_certify (a0 : Nat) (a1 : Int32) (a2 : Int32) (a3 : Int32) (h : zHp) : Option (Int32 × zHp) :=
  (zgR h a0 7 0).bind fun v1 =>
  zb2 (zif (zis h v1 5) (f_X5_memberAt v1 a1 h)) fun w2 h3 =>
  zopt w2
    (some ((-1), h3))
    fun v4 =>
    zb2 (f_X7_isRole a2 h3) fun v5 h6 =>
    if v5 = 0 then
      some ((-1), h6)
    else
      zb2 (f_X7_isWithin a3 0 9999 h6) fun v7 h8 =>
      if v7 = 0 then
        some ((-2), h8)
      else
        (zgR h8 a0 7 0).bind fun v9 =>
        zb2 (zif (zis h8 v9 5) (f_X5_needsCertificateAfter v9 a1 a2 a3 h8)) fun v10 h11 =>
        if v10 = 0 then
          (zgR h11 a0 7 3).bind fun v12 =>
          (zgR h11 a0 7 0).bind fun v13 =>
          (zif (zis h11 v12 1) (f_X1_record v12 v13 h11)).bind fun h14 =>
          zb2 (zif (zis h14 v4 3) (f_X3_replaceCertificate v4 a2 a3 h14)) fun v15 h16 =>
          some (v15, h16)
        else
          some ((-4), h11)
noncomputable def f_X7_climb (a0 : Nat) (a1 : Int32) (a2 : Int32) (h : zHp) : Option (Int32 × zHp) :=
  (zgR h a0 7 0).bind fun v1 =>
  zb2 (zif (zis h v1 5) (f_X5_ladderOf v1 a2 h)) fun w2 h3 =>
  (zgR h3 a0 7 0).bind fun v4 =>
  zb2 (zif (zis h3 v4 5) (f_X5_memberAt v4 a1 h3)) fun w5 h6 =>
  zopt w5
    (some ((-1), h6))
    fun v7 =>
    zopt w2
      (some ((-1), h6))
      fun v8 =>
      (zgR h6 a0 7 3).bind fun v9 =>
      (zgR h6 a0 7 0).bind fun v10 =>
      (zif (zis h6 v9 1) (f_X1_record v9 v10 h6)).bind fun h11 =>
      zb2 (zif (zis h11 v8 2) (f_X2_putLast v8 a1 h11)) fun v12 h13 =>
      some (v12, h13)
noncomputable def f_X7_leave (a0 : Nat) (a1 : Int32) (a2 : Int32) (h : zHp) : Option (Int32 × zHp) :=
  (zgR h a0 7 0).bind fun v1 =>
  zb2 (zif (zis h v1 5) (f_X5_ladderOf v1 a2 h)) fun w2 h3 =>
  (zgR h3 a0 7 0).bind fun v4 =>
  zb2 (zif (zis h3 v4 5) (f_X5_memberAt v4 a1 h3)) fun w5 h6 =>
  zopt w5
    (some ((-1), h6))
    fun v7 =>
    zopt w2
      (some ((-1), h6))
      fun v8 =>
      zb2 (zif (zis h6 v8 2) (f_X2_has v8 a1 h6)) fun v9 h10 =>
      if v9 = 0 then
        some ((-5), h10)
      else
        (zgR h10 a0 7 3).bind fun v11 =>
        (zgR h10 a0 7 0).bind fun v12 =>
        (zif (zis h10 v11 1) (f_X1_record v11 v12 h10)).bind fun h13 =>
        zb2 (zif (zis h13 v8 2) (f_X2_takeOff v8 a1 h13)) fun v14 h15 =>
        some (v14, h15)
noncomputable def f_X7_sick (a0 : Nat) (a1 : Int32) (a2 : Int32) (h : zHp) : Option (Int32 × zHp) :=
  (zgR h a0 7 0).bind fun v1 =>
  zb2 (zif (zis h v1 5) (f_X5_memberAt v1 a1 h)) fun w2 h3 =>
  zopt w2
    (some ((-1), h3))
    fun v4 =>
    zb2 (f_X7_isWithin a2 1 400 h3) fun v5 h6 =>
    if v5 = 0 then
      some ((-2), h6)
    else
      (zgR h6 a0 7 3).bind fun v7 =>
      (zgR h6 a0 7 0).bind fun v8 =>
      (zif (zis h6 v7 1) (f_X1_record v7 v8 h6)).bind fun h9 =>
      (zgR h9 a0 7 0).bind fun v10 =>
      zb2 (zif (zis h9 v10 5) (f_X5_fallSick v10 a1 a2 h9)) fun v11 h12 =>
      some (v11, h12)
noncomputable def f_X7_well (a0 : Nat) (a1 : Int32) (h : zHp) : Option (Int32 × zHp) :=
  (zgR h a0 7 0).bind fun v1 =>
  zb2 (zif (zis h v1 5) (f_X5_memberAt v1 a1 h)) fun w2 h3 =>
  zopt w2
    (some ((-1), h3))
    fun v4 =>
    (zgI h3 v4 3 1).bind fun v5 =>
    (zgR h3 a0 7 0).bind fun v6 =>
    (zgI h3 v6 5 2).bind fun v7 =>
    if 0 < (v5 - v7) then
      (zgR h3 a0 7 3).bind fun v8 =>
      (zgR h3 a0 7 0).bind fun v9 =>
      (zif (zis h3 v8 1) (f_X1_record v8 v9 h3)).bind fun h10 =>
      (zpV h10 v4 3 1 (.int 0)).bind fun h11 =>
      some ((v5 - v7), h11)
    else
      some ((-5), h3)
noncomputable def f_X7_give (a0 : Nat) (a1 : Int32) (a2 : Int32) (a3 : Int32) (h : zHp) : Option (Int32 × zHp) :=
  (zgR h a0 7 0).bind fun v1 =>
  zb2 (zif (zis h v1 5) (f_X5_sailingAt v1 a2 h)) fun w2 h3 =>
  (zgR h3 a0 7 0).bind fun v4 =>
  zb2 (zif (zis h3 v4 5) (f_X5_memberAt v4 a1 h3)) fun w5 h6 =>
  zopt w5
    (some ((-1), h6))
    fun v7 =>
    zopt w2
      (some ((-1), h6))
      fun v8 =>
      zb2 (f_X7_isRole a3 h6) fun v9 h10 =>
      if v9 = 0 then
        some ((-1), h10)
      else
        (zgR h10 a0 7 0).bind fun v11 =>
        zb2 (zif (zis h10 v11 5) (f_X5_reasonAgainst v11 a1 v8 a3 h10)) fun v12 h13 =>
        if v12 = 0 then
          (zgR h13 a0 7 3).bind fun v14 =>
          (zgR h13 a0 7 0).bind fun v15 =>
          (zif (zis h13 v14 1) (f_X1_record v14 v15 h13)).bind fun h16 =>
          (zif (zis h16 v8 4) (f_X4_seat v8 a1 a3 h16)).bind fun h17 =>
          some (0, h17)
        else
          some (v12, h13)
noncomputable def f_X7_giveUp (a0 : Nat) (a1 : Int32) (a2 : Int32) (h : zHp) : Option (Int32 × zHp) :=
  (zgR h a0 7 0).bind fun v1 =>
  zb2 (zif (zis h v1 5) (f_X5_sailingAt v1 a2 h)) fun w2 h3 =>
  (zgR h3 a0 7 0).bind fun v4 =>
  zb2 (zif (zis h3 v4 5) (f_X5_memberAt v4 a1 h3)) fun w5 h6 =>
  zopt w5
    (some ((-1), h6))
    fun v7 =>
    zopt w2
      (some ((-1), h6))
      fun v8 =>
      zb2 (zif (zis h6 v8 4) (f_X4_isOpen v8 h6)) fun v9 h10 =>
      if v9 = 0 then
        some ((-4), h10)
      else
        zb2 (zif (zis h10 v8 4) (f_X4_seats v8 a1 h10)) fun v11 h12 =>
        if v11 = 0 then
          some ((-5), h12)
        else
          (zgR h12 a0 7 3).bind fun v13 =>
          (zgR h12 a0 7 0).bind fun v14 =>
          (zif (zis h12 v13 1) (f_X1_record v13 v14 h12)).bind fun h15 =>
          zb2 (zif (zis h15 v8 4) (f_X4_unseat v8 a1 h15)) fun v16 h17 =>
          some (v16, h17)
noncomputable def f_X7_fill (a0 : Nat) (a1 : Int32) (h : zHp) : Option (Int32 × zHp) :=
  (zgR h a0 7 0).bind fun v1 =>
  zb2 (zif (zis h v1 5) (f_X5_sailingAt v1 a1 h)) fun w2 h3 =>
  zopt w2
    (some ((-1), h3))
    fun v4 =>
    zb2 (zif (zis h3 v4 4) (f_X4_isOpen v4 h3)) fun v5 h6 =>
    if v5 = 0 then
      some ((-4), h6)
    else
      zb2 (zif (zis h6 v4 4) (f_X4_freePlaces v4 h6)) fun v7 h8 =>
      if v7 = 0 then
        some ((-5), h8)
      else
        (zgR h8 a0 7 3).bind fun v9 =>
        (zgR h8 a0 7 0).bind fun v10 =>
        (zif (zis h8 v9 1) (f_X1_record v9 v10 h8)).bind fun h11 =>
        (zgR h11 a0 7 0).bind fun v12 =>
        zb2 (zif (zis h11 v12 5) (f_X5_coverAllPlaces v12 v4 h11)) fun v13 h14 =>
        some (v13, h14)
noncomputable def f_X7_pass (a0 : Nat) (a1 : Int32) (h : zHp) : Option (Int32 × zHp) :=
  zb2 (f_X7_isWithin a1 1 200 h) fun v1 h2 =>
  if v1 = 0 then
    some ((-2), h2)
  else
    (zgR h2 a0 7 0).bind fun v3 =>
    (zgI h2 v3 5 2).bind fun v4 =>
    if (v4 + a1) ≤ 1000 then
      (zgR h2 a0 7 3).bind fun v5 =>
      (zgR h2 a0 7 0).bind fun v6 =>
      (zif (zis h2 v5 1) (f_X1_record v5 v6 h2)).bind fun h7 =>
      (zgR h7 a0 7 0).bind fun v8 =>
      zb2 (zif (zis h7 v8 5) (f_X5_goOn v8 a1 h7)) fun v9 h10 =>
      some (v9, h10)
    else
      some ((-3), h2)
noncomputable def f_X7_set (a0 : Nat) (a1 : Int32) (a2 : Int32) (h : zHp) : Option (Int32 × zHp) :=
  zb2 (f_X7_isWithin a1 0 4 h) fun v1 h2 =>
  if v1 = 0 then
    some ((-2), h2)
  else
    (ztab 5 zT2 a1).bind fun v3 =>
    zb2 (f_X7_isWithin a2 0 v3 h2) fun v4 h5 =>
    if v4 = 0 then
      some ((-2), h5)
    else
      (zgR h5 a0 7 0).bind fun v6 =>
      (zgR h5 v6 5 1).bind fun v7 =>
      (zld h5 v7 0 a1).bind fun v8 =>
      if a2 = v8 then
        some ((-5), h5)
      else
        (zgR h5 a0 7 2).bind fun v9 =>
        (zgR h5 a0 7 0).bind fun v10 =>
        (zif (zis h5 v9 5) (f_X5_copyFrom v9 v10 h5)).bind fun h11 =>
        (zgR h11 a0 7 2).bind fun v12 =>
        (zgR h11 v12 5 1).bind fun v13 =>
        (zst h11 v13 0 a1 a2).bind fun h14 =>
        (zgR h14 a0 7 2).bind fun v15 =>
        zb2 (zif (zis h14 v15 5) (f_X5_allRestsHold v15 h14)) fun v16 h17 =>
        if v16 = 0 then
          some ((-4), h17)
        else
          (zgR h17 a0 7 3).bind fun v18 =>
          (zgR h17 a0 7 0).bind fun v19 =>
          (zif (zis h17 v18 1) (f_X1_record v18 v19 h17)).bind fun h20 =>
          (zgR h20 a0 7 0).bind fun v21 =>
          (zgR h20 v21 5 1).bind fun v22 =>
          (zst h20 v22 0 a1 a2).bind fun h23 =>
          some (v8, h23)
noncomputable def f_X7_type (a0 : Nat) (a1 : Int32) (h : zHp) : Option (Int32 × zHp) :=
  (zgR h a0 7 4).bind fun v1 =>
  zb2 (zif (zis h v1 6) (f_X6_append v1 a1 h)) fun v2 h3 =>
  some (v2, h3)
noncomputable def f_X7_clearText (a0 : Nat) (h : zHp) : Option (Int32 × zHp) :=
  (zgR h a0 7 4).bind fun v1 =>
  (zgI h v1 6 1).bind fun v2 =>
  (zgR h a0 7 4).bind fun v3 =>
  (zpV h v3 6 1 (.int 0)).bind fun h4 =>
  some (v2, h4)
noncomputable def f_X7_fault (a0 : Nat) (h : zHp) : Option (Int32 × zHp) :=
  (zgR h a0 7 4).bind fun v1 =>
  zb2 (zif (zis h v1 6) (f_X6_readAll v1 h)) fun v2 h3 =>
  some (v2, h3)
noncomputable def f_X7_undo (a0 : Nat) (h : zHp) : Option (Int32 × zHp) :=
  (zgR h a0 7 3).bind fun v1 =>
  (zgI h v1 1 1).bind fun v2 =>
  if v2 = 0 then
    some ((-5), h)
  else
    (zgR h a0 7 3).bind fun v3 =>
    (zgR h a0 7 0).bind fun v4 =>
    (zif (zis h v3 1) (f_X1_takeBack v3 v4 h)).bind fun h5 =>
    (zgR h5 a0 7 3).bind fun v6 =>
    (zgI h5 v6 1 1).bind fun v7 =>
    some (v7, h5)
noncomputable def f_X7_keep (a0 : Nat) (h : zHp) : Option (Int32 × zHp) :=
  (zgR h a0 7 1).bind fun v1 =>
  (zgR h a0 7 0).bind fun v2 =>
  (zif (zis h v1 5) (f_X5_copyFrom v1 v2 h)).bind fun h3 =>
  (zpV h3 a0 7 5 (.int 1)).bind fun h4 =>
  (zgR h4 a0 7 0).bind fun v5 =>
  (zgI h4 v5 5 2).bind fun v6 =>
  some (v6, h4)
noncomputable def f_X7_restore (a0 : Nat) (h : zHp) : Option (Int32 × zHp) :=
  (zgI h a0 7 5).bind fun v1 =>
  if v1 = 0 then
    some ((-5), h)
  else
    (zgR h a0 7 3).bind fun v2 =>
    (zgR h a0 7 0).bind fun v3 =>
    (zif (zis h v2 1) (f_X1_record v2 v3 h)).bind fun h4 =>
    (zgR h4 a0 7 0).bind fun v5 =>
    (zgR h4 a0 7 1).bind fun v6 =>
    (zif (zis h4 v5 5) (f_X5_copyFrom v5 v6 h4)).bind fun h7 =>
    (zgR h7 a0 7 0).bind fun v8 =>
    (zgI h7 v8 5 2).bind fun v9 =>
    some (v9, h7)
noncomputable def f_X7_sailingOf (a0 : Nat) (a1 : Int32) (a2 : Int32) (h : zHp) : Option (Int32 × zHp) :=
  (zgR h a0 7 0).bind fun v1 =>
  zb2 (zif (zis h v1 5) (f_X5_sailingAt v1 a1 h)) fun w2 h3 =>
  zopt w2
    (some ((-1), h3))
    fun v4 =>
    if a2 = 0 then
      (zgI h3 v4 4 5).bind fun v5 =>
      some (v5, h3)
    else if a2 = 1 then
      (zgI h3 v4 4 1).bind fun v6 =>
      some (v6, h3)
    else if a2 = 2 then
      (zgI h3 v4 4 2).bind fun v7 =>
      some (v7, h3)
    else if a2 = 3 then
      (zgI h3 v4 4 3).bind fun v8 =>
      some (v8, h3)
    else if a2 = 4 then
      (zgI h3 v4 4 4).bind fun v9 =>
      some (v9, h3)
    else if a2 = 5 then
      zb2 (zif (zis h3 v4 4) (f_X4_allPlaces v4 h3)) fun v10 h11 =>
      some (v10, h11)
    else if a2 = 6 then
      zb2 (zif (zis h3 v4 4) (f_X4_freePlaces v4 h3)) fun v12 h13 =>
      some (v12, h13)
    else 
      some ((-2), h3)
noncomputable def f_X7_crew (a0 : Nat) (a1 : Int32) (a2 : Int32) (a3 : Int32) (h : zHp) : Option (Int32 × zHp) :=
  (zgR h a0 7 0).bind fun v1 =>
  zb2 (zif (zis h v1 5) (f_X5_sailingAt v1 a1 h)) fun w2 h3 =>
  zopt w2
    (some ((-1), h3))
    fun v4 =>
    if a2 < 0 then
      some ((-2), h3)
    else
      zb2 (f_X7_isWithin a3 0 2 h3) fun v5 h6 =>
      if v5 = 0 then
        some ((-2), h6)
      else
        zb2 (zif (zis h6 v4 4) (f_X4_memberOfRank v4 a2 h6)) fun v7 h8 =>
        if v7 = (-5) then
          some (v7, h8)
        else
          if a3 = 0 then
            some (v7, h8)
          else
            if a3 = 1 then
              zb2 (zif (zis h8 v4 4) (f_X4_roleOf v4 v7 h8)) fun v15 h16 =>
              some (v15, h16)
            else
              (zgR h8 a0 7 0).bind fun v9 =>
              zb2 (zif (zis h8 v9 5) (f_X5_dutiesOf v9 v7 none h8)) fun w10 h11 =>
              zopt w10 none fun v12 =>
              zb2 (zif (zis h11 v12 0) (f_X0_beginOf v12 v4 h11)) fun v13 h14 =>
              some (v13, h14)
noncomputable def f_X7_memberOf (a0 : Nat) (a1 : Int32) (a2 : Int32) (h : zHp) : Option (Int32 × zHp) :=
  (zgR h a0 7 0).bind fun v1 =>
  zb2 (zif (zis h v1 5) (f_X5_memberAt v1 a1 h)) fun w2 h3 =>
  zopt w2
    (some ((-1), h3))
    fun v4 =>
    zb2 (f_X7_isRole a2 h3) fun v5 h6 =>
    if v5 = 0 then
      if a2 = 4 then
        (zgI h6 v4 3 1).bind fun v7 =>
        (zgR h6 a0 7 0).bind fun v8 =>
        (zgI h6 v8 5 2).bind fun v9 =>
        if v7 ≤ v9 then
          some ((-5), h6)
        else
          (zgI h6 v4 3 1).bind fun v10 =>
          some (v10, h6)
      else if a2 = 5 then
        (zgR h6 a0 7 0).bind fun v11 =>
        zb2 (zif (zis h6 v11 5) (f_X5_placesOf v11 a1 0 h6)) fun v12 h13 =>
        some (v12, h13)
      else if a2 = 6 then
        (zgR h6 a0 7 0).bind fun v14 =>
        zb2 (zif (zis h6 v14 5) (f_X5_placesOf v14 a1 1 h6)) fun v15 h16 =>
        some (v15, h16)
      else if a2 = 7 then
        (zgR h6 a0 7 0).bind fun v17 =>
        zb2 (zif (zis h6 v17 5) (f_X5_dutiesOf v17 a1 none h6)) fun w18 h19 =>
        zopt w18 none fun v20 =>
        (zgI h19 v20 0 1).bind fun v21 =>
        some (v21, h19)
      else if a2 = 8 then
        (zgI h6 v4 3 2).bind fun v22 =>
        some (v22, h6)
      else if a2 = 9 then
        (zgR h6 a0 7 0).bind fun v23 =>
        zb2 (zif (zis h6 v23 5) (f_X5_nextSailingOf v23 a1 h6)) fun v24 h25 =>
        some (v24, h25)
      else 
        some ((-2), h6)
    else
      zb2 (zif (zis h6 v4 3) (f_X3_certificateOf v4 a2 h6)) fun v26 h27 =>
      some (v26, h27)
noncomputable def f_X7_ladder (a0 : Nat) (a1 : Int32) (a2 : Int32) (h : zHp) : Option (Int32 × zHp) :=
  (zgR h a0 7 0).bind fun v1 =>
  zb2 (zif (zis h v1 5) (f_X5_ladderOf v1 a1 h)) fun w2 h3 =>
  zopt w2
    (some ((-1), h3))
    fun v4 =>
    if 0 ≤ a2 then
      zb2 (zif (zis h3 v4 2) (f_X2_memberOfRank v4 a2 h3)) fun v5 h6 =>
      some (v5, h6)
    else
      some ((-2), h3)
noncomputable def f_X7_rest (a0 : Nat) (a1 : Int32) (a2 : Int32) (a3 : Int32) (h : zHp) : Option (Int32 × zHp) :=
  (zgR h a0 7 0).bind fun v1 =>
  zb2 (zif (zis h v1 5) (f_X5_memberAt v1 a1 h)) fun w2 h3 =>
  zopt w2
    (some ((-1), h3))
    fun v4 =>
    zb2 (f_X7_isWithin a2 0 1000 h3) fun v5 h6 =>
    if v5 = 0 then
      some ((-2), h6)
    else
      zb2 (f_X7_isWithin a3 1 168 h6) fun v7 h8 =>
      if v7 = 0 then
        some ((-2), h8)
      else
        (zgR h8 a0 7 0).bind fun v9 =>
        zb2 (zif (zis h8 v9 5) (f_X5_dutiesOf v9 a1 none h8)) fun w10 h11 =>
        zopt w10 none fun v12 =>
        zb2 (zif (zis h11 v12 0) (f_X0_restIn v12 a2 a3 h11)) fun v13 h14 =>
        some (v13, h14)
noncomputable def f_X7_leastRest (a0 : Nat) (a1 : Int32) (a2 : Int32) (h : zHp) : Option (Int32 × zHp) :=
  (zgR h a0 7 0).bind fun v1 =>
  zb2 (zif (zis h v1 5) (f_X5_memberAt v1 a1 h)) fun w2 h3 =>
  zopt w2
    (some ((-1), h3))
    fun v4 =>
    zb2 (f_X7_isWithin a2 0 2 h3) fun v5 h6 =>
    if v5 = 0 then
      some ((-2), h6)
    else
      (zgR h6 a0 7 0).bind fun v7 =>
      zb2 (zif (zis h6 v7 5) (f_X5_dutiesOf v7 a1 none h6)) fun w8 h9 =>
      zopt w8 none fun v10 =>
      if a2 = 2 then
        zb2 (zif (zis h9 v10 0) (f_X0_leastLongRest v10 h9)) fun v15 h16 =>
        some (v15, h16)
      else
        zb2 (zif (zis h9 v10 0) (f_X0_firstHourOfLeastRest v10 h9)) fun v11 h12 =>
        if a2 = 1 then
          some (v11, h12)
        else
          zb2 (zif (zis h12 v10 0) (f_X0_restIn v10 v11 24 h12)) fun v13 h14 =>
          some (v13, h14)
noncomputable def f_X7_overtime (a0 : Nat) (a1 : Int32) (a2 : Int32) (h : zHp) : Option (Int32 × zHp) :=
  (zgR h a0 7 0).bind fun v1 =>
  zb2 (zif (zis h v1 5) (f_X5_memberAt v1 a1 h)) fun w2 h3 =>
  zopt w2
    (some ((-1), h3))
    fun v4 =>
    zb2 (f_X7_isWithin a2 0 5 h3) fun v5 h6 =>
    if v5 = 0 then
      some ((-1), h6)
    else
      (zgR h6 a0 7 0).bind fun v7 =>
      (zgR h6 a0 7 0).bind fun v8 =>
      zb2 (zif (zis h6 v8 5) (f_X5_dutiesOf v8 a1 none h6)) fun w9 h10 =>
      zopt w9 none fun v11 =>
      zb2 (zif (zis h10 v7 5) (f_X5_hoursBeyond v7 v11 a2 h10)) fun v12 h13 =>
      some (v12, h13)
noncomputable def f_X7_count (a0 : Nat) (a1 : Int32) (h : zHp) : Option (Int32 × zHp) :=
  zb2 (f_X7_isWithin a1 13 17 h) fun v1 h2 =>
  if v1 = 0 then
    if a1 = 0 then
      (zgR h2 a0 7 0).bind fun v3 =>
      (zgI h2 v3 5 2).bind fun v4 =>
      some (v4, h2)
    else if a1 = 1 then
      (zgR h2 a0 7 0).bind fun v5 =>
      (zgI h2 v5 5 3).bind fun v6 =>
      some (v6, h2)
    else if a1 = 2 then
      (zgR h2 a0 7 0).bind fun v7 =>
      zb2 (zif (zis h2 v7 5) (f_X5_sailingsThatAre v7 0 h2)) fun v8 h9 =>
      some (v8, h9)
    else if a1 = 3 then
      (zgR h2 a0 7 0).bind fun v10 =>
      zb2 (zif (zis h2 v10 5) (f_X5_sailingsThatAre v10 1 h2)) fun v11 h12 =>
      some (v11, h12)
    else if a1 = 4 then
      (zgR h2 a0 7 0).bind fun v13 =>
      zb2 (zif (zis h2 v13 5) (f_X5_sailingsThatAre v13 2 h2)) fun v14 h15 =>
      some (v14, h15)
    else if a1 = 5 then
      (zgR h2 a0 7 0).bind fun v16 =>
      (zgI h2 v16 5 4).bind fun v17 =>
      some (v17, h2)
    else if a1 = 6 then
      (zgR h2 a0 7 0).bind fun v18 =>
      zb2 (zif (zis h2 v18 5) (f_X5_membersSickNow v18 h2)) fun v19 h20 =>
      some (v19, h20)
    else if a1 = 7 then
      (zgR h2 a0 7 0).bind fun v21 =>
      zb2 (zif (zis h2 v21 5) (f_X5_freeOpenPlaces v21 h2)) fun v22 h23 =>
      some (v22, h23)
    else if a1 = 8 then
      (zgR h2 a0 7 0).bind fun v24 =>
      zb2 (zif (zis h2 v24 5) (f_X5_takenOpenPlaces v24 h2)) fun v25 h26 =>
      some (v25, h26)
    else if a1 = 9 then
      (zgR h2 a0 7 0).bind fun v27 =>
      zb2 (zif (zis h2 v27 5) (f_X5_allCovers v27 h2)) fun v28 h29 =>
      some (v28, h29)
    else if a1 = 10 then
      (zgR h2 a0 7 0).bind fun v30 =>
      zb2 (zif (zis h2 v30 5) (f_X5_allHoursBeyond v30 h2)) fun v31 h32 =>
      some (v31, h32)
    else if a1 = 11 then
      (zgR h2 a0 7 3).bind fun v33 =>
      (zgI h2 v33 1 1).bind fun v34 =>
      some (v34, h2)
    else if a1 = 12 then
      (zgR h2 a0 7 4).bind fun v35 =>
      (zgI h2 v35 6 1).bind fun v36 =>
      some (v36, h2)
    else 
      some ((-2), h2)
  else
    (zgR h2 a0 7 0).bind fun v37 =>
    (zgR h2 v37 5 1).bind fun v38 =>
    (zld h2 v38 0 (a1 - 13)).bind fun v39 =>
    some (v39, h2)
noncomputable def f_X7_why (a0 : Nat) (a1 : Int32) (a2 : Int32) (a3 : Int32) (h : zHp) : Option (Int32 × zHp) :=
  (zgR h a0 7 0).bind fun v1 =>
  zb2 (zif (zis h v1 5) (f_X5_sailingAt v1 a2 h)) fun w2 h3 =>
  (zgR h3 a0 7 0).bind fun v4 =>
  zb2 (zif (zis h3 v4 5) (f_X5_memberAt v4 a1 h3)) fun w5 h6 =>
  zopt w5
    (some ((-1), h6))
    fun v7 =>
    zopt w2
      (some ((-1), h6))
      fun v8 =>
      zb2 (f_X7_isRole a3 h6) fun v9 h10 =>
      if v9 = 0 then
        some ((-1), h10)
      else
        (zgR h10 a0 7 0).bind fun v11 =>
        zb2 (zif (zis h10 v11 5) (f_X5_reasonAgainst v11 a1 v8 a3 h10)) fun v12 h13 =>
        some (v12, h13)
noncomputable def f_X7_able_63 (r28 : Nat → Int32 → Nat → Int32 → Int32 → zHp → Option (Int32 × zHp)) (a0 : Nat) (a2 : Int32) (a3 : Nat) (a4 : Int32) (a5 : Int32) (h : zHp) : Option (Int32 × zHp) :=
  r28 a0 a2 a3 a4 (a5 + 1) h
noncomputable def f_X7_able_28_body (r28 : Nat → Int32 → Nat → Int32 → Int32 → zHp → Option (Int32 × zHp)) (a0 : Nat) (a2 : Int32) (a3 : Nat) (a4 : Int32) (a5 : Int32) (h : zHp) : Option (Int32 × zHp) :=
  (zgR h a0 7 0).bind fun v1 =>
  (zgI h v1 5 4).bind fun v2 =>
  if v2 ≤ a5 then
    some (a4, h)
  else
    (zgR h a0 7 0).bind fun v3 =>
    zb2 (zif (zis h v3 5) (f_X5_reasonAgainst v3 a5 a3 a2 h)) fun v4 h5 =>
    if v4 = 0 then
      f_X7_able_63 r28 a0 a2 a3 (a4 ||| (1 <<< (a5 &&& 31))) a5 h5
    else
      f_X7_able_63 r28 a0 a2 a3 a4 a5 h5
noncomputable def f_X7_able_28 : Nat → Nat → Int32 → Nat → Int32 → Int32 → zHp → Option (Int32 × zHp)
  | 0 => fun _ _ _ _ _ _ => none
  | n + 1 => fun a0 a2 a3 a4 a5 h => f_X7_able_28_body (f_X7_able_28 n) a0 a2 a3 a4 a5 h
noncomputable def f_X7_able (a0 : Nat) (a1 : Int32) (a2 : Int32) (h : zHp) : Option (Int32 × zHp) :=
  (zgR h a0 7 0).bind fun v1 =>
  zb2 (zif (zis h v1 5) (f_X5_sailingAt v1 a1 h)) fun w2 h3 =>
  zopt w2
    (some ((-1), h3))
    fun v4 =>
    zb2 (f_X7_isRole a2 h3) fun v5 h6 =>
    if v5 = 0 then
      some ((-1), h6)
    else
      f_X7_able_28 zN a0 a2 v4 0 0 h6
noncomputable def f_X7_ifSick (a0 : Nat) (a1 : Int32) (a2 : Int32) (h : zHp) : Option (Int32 × zHp) :=
  (zgR h a0 7 0).bind fun v1 =>
  zb2 (zif (zis h v1 5) (f_X5_memberAt v1 a1 h)) fun w2 h3 =>
  zopt w2
    (some ((-1), h3))
    fun v4 =>
    zb2 (f_X7_isWithin a2 1 400 h3) fun v5 h6 =>
    if v5 = 0 then
      some ((-2), h6)
    else
      (zgR h6 a0 7 2).bind fun v7 =>
      (zgR h6 a0 7 0).bind fun v8 =>
      (zif (zis h6 v7 5) (f_X5_copyFrom v7 v8 h6)).bind fun h9 =>
      (zgR h9 a0 7 2).bind fun v10 =>
      zb2 (zif (zis h9 v10 5) (f_X5_fallSick v10 a1 a2 h9)) fun v11 h12 =>
      some (v11, h12)
noncomputable def f_X7_weakest_69 (r22 : Nat → Int32 → Int32 → Int32 → Int32 → zHp → Option (Int32 × zHp)) (a0 : Nat) (a1 : Int32) (a2 : Int32) (a3 : Int32) (a4 : Int32) (h : zHp) : Option (Int32 × zHp) :=
  r22 a0 a1 a2 a3 (a4 + 1) h
noncomputable def f_X7_weakest_22_body (r22 : Nat → Int32 → Int32 → Int32 → Int32 → zHp → Option (Int32 × zHp)) (a0 : Nat) (a1 : Int32) (a2 : Int32) (a3 : Int32) (a4 : Int32) (h : zHp) : Option (Int32 × zHp) :=
  (zgR h a0 7 0).bind fun v1 =>
  (zgI h v1 5 4).bind fun v2 =>
  if v2 ≤ a4 then
    some (a2, h)
  else
    (zgR h a0 7 2).bind fun v3 =>
    (zgR h a0 7 0).bind fun v4 =>
    (zif (zis h v3 5) (f_X5_copyFrom v3 v4 h)).bind fun h5 =>
    (zgR h5 a0 7 2).bind fun v6 =>
    zb2 (zif (zis h5 v6 5) (f_X5_fallSick v6 a4 a1 h5)) fun v7 h8 =>
    if v7 ≤ a3 then
      f_X7_weakest_69 r22 a0 a1 a2 a3 a4 h8
    else
      f_X7_weakest_69 r22 a0 a1 a4 v7 a4 h8
noncomputable def f_X7_weakest_22 : Nat → Nat → Int32 → Int32 → Int32 → Int32 → zHp → Option (Int32 × zHp)
  | 0 => fun _ _ _ _ _ _ => none
  | n + 1 => fun a0 a1 a2 a3 a4 h => f_X7_weakest_22_body (f_X7_weakest_22 n) a0 a1 a2 a3 a4 h
noncomputable def f_X7_weakest (a0 : Nat) (a1 : Int32) (h : zHp) : Option (Int32 × zHp) :=
  zb2 (f_X7_isWithin a1 1 400 h) fun v1 h2 =>
  if v1 = 0 then
    some ((-2), h2)
  else
    f_X7_weakest_22 zN a0 a1 (-5) (-1) 0 h2
noncomputable def f_X7_atRisk (a0 : Nat) (h : zHp) : Option (Int32 × zHp) :=
  (zgR h a0 7 0).bind fun v1 =>
  zb2 (zif (zis h v1 5) (f_X5_firstSailingWithFreePlace v1 h)) fun v2 h3 =>
  some (v2, h3)
noncomputable def f_X7_cancelledIn (a0 : Nat) (a1 : Int32) (h : zHp) : Option (Int32 × zHp) :=
  zb2 (f_X7_isWithin a1 1 1000 h) fun v1 h2 =>
  if v1 = 0 then
    some ((-2), h2)
  else
    (zgR h2 a0 7 0).bind fun v3 =>
    (zgR h2 a0 7 0).bind fun v4 =>
    (zgI h2 v4 5 2).bind fun v5 =>
    zb2 (zif (zis h2 v3 5) (f_X5_sailingsToBeCancelledBefore v3 (v5 + a1) h2)) fun v6 h7 =>
    some (v6, h7)
noncomputable def f_X7_freshest_49 (r7 : Nat → Int32 → Int32 → Int32 → zHp → Option (Int32 × zHp)) (a0 : Nat) (a1 : Int32) (a2 : Int32) (a3 : Int32) (h : zHp) : Option (Int32 × zHp) :=
  r7 a0 a1 a2 (a3 + 1) h
noncomputable def f_X7_freshest_44 (r7 : Nat → Int32 → Int32 → Int32 → zHp → Option (Int32 × zHp)) (a0 : Nat) (a3 : Int32) (a4 : Int32) (h : zHp) : Option (Int32 × zHp) :=
  f_X7_freshest_49 r7 a0 a3 a4 a3 h
noncomputable def f_X7_freshest_7_body (r7 : Nat → Int32 → Int32 → Int32 → zHp → Option (Int32 × zHp)) (a0 : Nat) (a1 : Int32) (a2 : Int32) (a3 : Int32) (h : zHp) : Option (Int32 × zHp) :=
  (zgR h a0 7 0).bind fun v1 =>
  (zgI h v1 5 4).bind fun v2 =>
  if v2 ≤ a3 then
    some (a1, h)
  else
    (zgR h a0 7 0).bind fun v3 =>
    zb2 (zif (zis h v3 5) (f_X5_dutiesOf v3 a3 none h)) fun w4 h5 =>
    zopt w4 none fun v6 =>
    (zgI h5 v6 0 1).bind fun v7 =>
    if a1 = (-5) then
      f_X7_freshest_44 r7 a0 a3 v7 h5
    else
      if a2 ≤ v7 then
        f_X7_freshest_49 r7 a0 a1 a2 a3 h5
      else
        f_X7_freshest_44 r7 a0 a3 v7 h5
noncomputable def f_X7_freshest_7 : Nat → Nat → Int32 → Int32 → Int32 → zHp → Option (Int32 × zHp)
  | 0 => fun _ _ _ _ _ => none
  | n + 1 => fun a0 a1 a2 a3 h => f_X7_freshest_7_body (f_X7_freshest_7 n) a0 a1 a2 a3 h
noncomputable def f_X7_freshest (a0 : Nat) (h : zHp) : Option (Int32 × zHp) :=
  f_X7_freshest_7 zN a0 (-5) 0 0 h
noncomputable def f_X8_init (a0 : Nat) (h : zHp) : Option zHp :=
  znm h.1 fun q1 => znm (zadd h (.inl (0, 1093, fun _ => 0))) fun h2 =>
  (zpV h2 a0 8 0 (.ref q1)).bind fun h3 =>
  znm h3.1 fun q4 => znm (zadd h3 (.inl (0, 1093, fun _ => 0))) fun h5 =>
  (zpV h5 a0 8 1 (.ref q4)).bind fun h6 =>
  znm h6.1 fun q7 => znm (zadd h6 (.inl (0, 1093, fun _ => 0))) fun h8 =>
  (zpV h8 a0 8 2 (.ref q7)).bind fun h9 =>
  znm h9.1 fun q10 => znm (zadd h9 (.inl (0, 4372, fun _ => 0))) fun h11 =>
  (zpV h11 a0 8 3 (.ref q10)).bind fun h12 =>
  znm h12.1 fun q13 => znm (zadd h12 (.inl (0, 60, fun _ => 0))) fun h14 =>
  (zpV h14 a0 8 4 (.ref q13)).bind fun h15 =>
  znm h15.1 fun q16 => znm (zadd h15 (.inl (0, 4, fun _ => 0))) fun h17 =>
  (zpV h17 a0 8 5 (.ref q16)).bind fun h18 =>
  znm h18.1 fun q19 => znm (zadd h18 (.inl (0, 1200, fun _ => 0))) fun h20 =>
  (zpV h20 a0 8 6 (.ref q19)).bind fun h21 =>
  znm h21.1 fun q22 => znm (zadd h21 (.inl (0, 48, fun _ => 0))) fun h23 =>
  (zpV h23 a0 8 7 (.ref q22)).bind fun h24 =>
  (zgR h24 a0 8 0).bind fun v25 =>
  (zst h24 v25 0 4 10).bind fun h26 =>
  (zgR h26 a0 8 0).bind fun v27 =>
  (zst h26 v27 0 5 6).bind fun h28 =>
  (zgR h28 a0 8 0).bind fun v29 =>
  (zst h28 v29 0 6 77).bind fun h30 =>
  (zgR h30 a0 8 0).bind fun v31 =>
  (zst h30 v31 0 7 1).bind fun h32 =>
  (zgR h32 a0 8 0).bind fun v33 =>
  (zst h32 v33 0 8 48).bind fun h34 =>
  some h34
noncomputable def f_X8_in_14 (h : zHp) : Option (Int32 × zHp) :=
  zbool 0 h
noncomputable def f_X8_in (a0 : Int32) (a1 : Int32) (a2 : Int32) (h : zHp) : Option (Int32 × zHp) :=
  if a0 < a1 then
    f_X8_in_14 h
  else
    if a2 < a0 then
      f_X8_in_14 h
    else
      zbool 1 h
noncomputable def f_X8_record_51_body (r51 : Nat → Int32 → zHp → Option (zHp)) (a0 : Nat) (a1 : Int32) (h : zHp) : Option zHp :=
  if 1093 ≤ a1 then
    (zgI h a0 8 9).bind fun v1 =>
    (zpV h a0 8 9 (.int (v1 + 1))).bind fun h2 =>
    some h2
  else
    (zgR h a0 8 3).bind fun v3 =>
    (zgI h a0 8 9).bind fun v4 =>
    (zgR h a0 8 0).bind fun v5 =>
    (zld h v5 0 a1).bind fun v6 =>
    (zst h v3 0 ((1093 * v4) + a1) v6).bind fun h7 =>
    r51 a0 (a1 + 1) h7
noncomputable def f_X8_record_51 : Nat → Nat → Int32 → zHp → Option (zHp)
  | 0 => fun _ _ _ => none
  | n + 1 => fun a0 a1 h => f_X8_record_51_body (f_X8_record_51 n) a0 a1 h
noncomputable def f_X8_record_49 (a0 : Nat) (h : zHp) : Option zHp :=
  f_X8_record_51 zN a0 0 h
noncomputable def f_X8_record_10_body (r10 : Nat → Int32 → zHp → Option (zHp)) (a0 : Nat) (a1 : Int32) (h : zHp) : Option zHp :=
  if 3279 ≤ a1 then
    (zgI h a0 8 9).bind fun v1 =>
    (zpV h a0 8 9 (.int (v1 - 1))).bind fun h2 =>
    f_X8_record_49 a0 h2
  else
    (zgR h a0 8 3).bind fun v3 =>
    (zgR h a0 8 3).bind fun v4 =>
    (zld h v4 0 (a1 + 1093)).bind fun v5 =>
    (zst h v3 0 a1 v5).bind fun h6 =>
    r10 a0 (a1 + 1) h6
noncomputable def f_X8_record_10 : Nat → Nat → Int32 → zHp → Option (zHp)
  | 0 => fun _ _ _ => none
  | n + 1 => fun a0 a1 h => f_X8_record_10_body (f_X8_record_10 n) a0 a1 h
noncomputable def f_X8_record (a0 : Nat) (h : zHp) : Option zHp :=
  (zgI h a0 8 9).bind fun v1 =>
  if v1 = 4 then
    f_X8_record_10 zN a0 0 h
  else
    f_X8_record_49 a0 h
noncomputable def f_X8_lay_2_body (r2 : Nat → Int32 → zHp → Option (zHp)) (a0 : Nat) (a1 : Int32) (h : zHp) : Option zHp :=
  if 1093 ≤ a1 then
    some h
  else
    (zgR h a0 8 2).bind fun v1 =>
    (zgR h a0 8 0).bind fun v2 =>
    (zld h v2 0 a1).bind fun v3 =>
    (zst h v1 0 a1 v3).bind fun h4 =>
    r2 a0 (a1 + 1) h4
noncomputable def f_X8_lay_2 : Nat → Nat → Int32 → zHp → Option (zHp)
  | 0 => fun _ _ _ => none
  | n + 1 => fun a0 a1 h => f_X8_lay_2_body (f_X8_lay_2 n) a0 a1 h
noncomputable def f_X8_lay (a0 : Nat) (h : zHp) : Option zHp :=
  f_X8_lay_2 zN a0 0 h
noncomputable def f_X8_takeBack_2_body (r2 : Nat → Int32 → zHp → Option (zHp)) (a0 : Nat) (a1 : Int32) (h : zHp) : Option zHp :=
  if 1093 ≤ a1 then
    some h
  else
    (zgR h a0 8 0).bind fun v1 =>
    (zgR h a0 8 2).bind fun v2 =>
    (zld h v2 0 a1).bind fun v3 =>
    (zst h v1 0 a1 v3).bind fun h4 =>
    r2 a0 (a1 + 1) h4
noncomputable def f_X8_takeBack_2 : Nat → Nat → Int32 → zHp → Option (zHp)
  | 0 => fun _ _ _ => none
  | n + 1 => fun a0 a1 h => f_X8_takeBack_2_body (f_X8_takeBack_2 n) a0 a1 h
noncomputable def f_X8_takeBack (a0 : Nat) (h : zHp) : Option zHp :=
  f_X8_takeBack_2 zN a0 0 h
noncomputable def f_X8_of (a0 : Nat) (a1 : Int32) (a2 : Int32) (h : zHp) : Option (Int32 × zHp) :=
  (zgR h a0 8 0).bind fun v1 =>
  (zld h v1 0 ((9 + (8 * a1)) + a2)).bind fun v2 =>
  some (v2, h)
noncomputable def f_X8_put (a0 : Nat) (a1 : Int32) (a2 : Int32) (a3 : Int32) (h : zHp) : Option zHp :=
  (zgR h a0 8 0).bind fun v1 =>
  (zst h v1 0 ((9 + (8 * a1)) + a2) a3).bind fun h2 =>
  some h2
noncomputable def f_X8_end (a0 : Nat) (a1 : Int32) (h : zHp) : Option (Int32 × zHp) :=
  zb2 (zif (zis h a0 8) (f_X8_of a0 a1 2 h)) fun v1 h2 =>
  zb2 (zif (zis h2 a0 8) (f_X8_of a0 a1 3 h2)) fun v3 h4 =>
  some ((v1 + v3), h4)
noncomputable def f_X8_is (a0 : Nat) (a1 : Int32) (a2 : Int32) (h : zHp) : Option (Int32 × zHp) :=
  zb2 (zif (zis h a0 8) (f_X8_of a0 a1 0 h)) fun v1 h2 =>
  if v1 = a2 then
    zbool 1 h2
  else
    zbool 0 h2
noncomputable def f_X8_isSailing (a0 : Nat) (a1 : Int32) (h : zHp) : Option (Int32 × zHp) :=
  (zgR h a0 8 0).bind fun v1 =>
  (zld h v1 0 1).bind fun v2 =>
  zb2 (f_X8_in a1 0 (v2 - 1) h) fun v3 h4 =>
  zbool v3 h4
noncomputable def f_X8_isMember (a0 : Nat) (a1 : Int32) (h : zHp) : Option (Int32 × zHp) :=
  (zgR h a0 8 0).bind fun v1 =>
  (zld h v1 0 2).bind fun v2 =>
  zb2 (f_X8_in a1 0 (v2 - 1) h) fun v3 h4 =>
  zbool v3 h4
noncomputable def f_X8_isRole (a0 : Int32) (h : zHp) : Option (Int32 × zHp) :=
  zb2 (f_X8_in a0 0 3 h) fun v1 h2 =>
  zbool v1 h2
noncomputable def f_X8_placeOf (a0 : Nat) (a1 : Int32) (a2 : Int32) (h : zHp) : Option (Int32 × zHp) :=
  (zgR h a0 8 0).bind fun v1 =>
  (zld h v1 0 ((393 + (12 * a1)) + a2)).bind fun v2 =>
  some (v2, h)
noncomputable def f_X8_setPlace (a0 : Nat) (a1 : Int32) (a2 : Int32) (a3 : Int32) (h : zHp) : Option zHp :=
  (zgR h a0 8 0).bind fun v1 =>
  (zst h v1 0 ((393 + (12 * a1)) + a2) a3).bind fun h2 =>
  some h2
noncomputable def f_X8_has (a0 : Nat) (a1 : Int32) (a2 : Int32) (h : zHp) : Option (Int32 × zHp) :=
  (zgR h a0 8 0).bind fun v1 =>
  (zld h v1 0 ((969 + (6 * a1)) + a2)).bind fun v2 =>
  some (v2, h)
noncomputable def f_X8_note (a0 : Nat) (a1 : Int32) (a2 : Int32) (a3 : Int32) (h : zHp) : Option zHp :=
  (zgR h a0 8 0).bind fun v1 =>
  (zst h v1 0 ((969 + (6 * a1)) + a2) a3).bind fun h2 =>
  some h2
noncomputable def f_X8_taken_35 (r5 : Nat → Int32 → Int32 → Int32 → Int32 → zHp → Option (Int32 × zHp)) (a0 : Nat) (a1 : Int32) (a2 : Int32) (a4 : Int32) (s0 : Int32) (s1 : Int32) (h : zHp) : Option (Int32 × zHp) :=
  r5 a0 a1 a2 (s1 + s0) (a4 + 1) h
noncomputable def f_X8_taken_5_body (r5 : Nat → Int32 → Int32 → Int32 → Int32 → zHp → Option (Int32 × zHp)) (a0 : Nat) (a1 : Int32) (a2 : Int32) (a3 : Int32) (a4 : Int32) (h : zHp) : Option (Int32 × zHp) :=
  (zgR h a0 8 0).bind fun v1 =>
  (zld h v1 0 2).bind fun v2 =>
  if v2 ≤ a4 then
    some (a3, h)
  else
    zb2 (zif (zis h a0 8) (f_X8_placeOf a0 a1 a4 h)) fun v3 h4 =>
    if v3 = (a2 + 1) then
      f_X8_taken_35 r5 a0 a1 a2 a4 1 a3 h4
    else
      f_X8_taken_35 r5 a0 a1 a2 a4 0 a3 h4
noncomputable def f_X8_taken_5 : Nat → Nat → Int32 → Int32 → Int32 → Int32 → zHp → Option (Int32 × zHp)
  | 0 => fun _ _ _ _ _ _ => none
  | n + 1 => fun a0 a1 a2 a3 a4 h => f_X8_taken_5_body (f_X8_taken_5 n) a0 a1 a2 a3 a4 h
noncomputable def f_X8_taken (a0 : Nat) (a1 : Int32) (a2 : Int32) (h : zHp) : Option (Int32 × zHp) :=
  f_X8_taken_5 zN a0 a1 a2 0 0 h
noncomputable def f_X8_needed (a0 : Nat) (a1 : Int32) (h : zHp) : Option (Int32 × zHp) :=
  zb2 (zif (zis h a0 8) (f_X8_of a0 a1 4 h)) fun v1 h2 =>
  zb2 (zif (zis h2 a0 8) (f_X8_of a0 a1 5 h2)) fun v3 h4 =>
  zb2 (zif (zis h4 a0 8) (f_X8_of a0 a1 6 h4)) fun v5 h6 =>
  zb2 (zif (zis h6 a0 8) (f_X8_of a0 a1 7 h6)) fun v7 h8 =>
  some ((((v1 + v3) + v5) + v7), h8)
noncomputable def f_X8_takenOf (a0 : Nat) (a1 : Int32) (h : zHp) : Option (Int32 × zHp) :=
  zb2 (zif (zis h a0 8) (f_X8_taken a0 a1 0 h)) fun v1 h2 =>
  zb2 (zif (zis h2 a0 8) (f_X8_taken a0 a1 1 h2)) fun v3 h4 =>
  zb2 (zif (zis h4 a0 8) (f_X8_taken a0 a1 2 h4)) fun v5 h6 =>
  zb2 (zif (zis h6 a0 8) (f_X8_taken a0 a1 3 h6)) fun v7 h8 =>
  some ((((v1 + v3) + v5) + v7), h8)
noncomputable def f_X8_freeOf (a0 : Nat) (a1 : Int32) (h : zHp) : Option (Int32 × zHp) :=
  zb2 (zif (zis h a0 8) (f_X8_needed a0 a1 h)) fun v1 h2 =>
  zb2 (zif (zis h2 a0 8) (f_X8_takenOf a0 a1 h2)) fun v3 h4 =>
  some ((v1 - v3), h4)
noncomputable def f_X8_isSick (a0 : Nat) (a1 : Int32) (h : zHp) : Option (Int32 × zHp) :=
  zb2 (zif (zis h a0 8) (f_X8_has a0 a1 4 h)) fun v1 h2 =>
  (zgR h2 a0 8 0).bind fun v3 =>
  (zld h2 v3 0 0).bind fun v4 =>
  if v1 ≤ v4 then
    zbool 0 h2
  else
    zbool 1 h2
noncomputable def f_X8_hasDuty_22 (h : zHp) : Option (Int32 × zHp) :=
  zbool 0 h
noncomputable def f_X8_hasDuty (a0 : Nat) (a1 : Int32) (a2 : Int32) (h : zHp) : Option (Int32 × zHp) :=
  zb2 (zif (zis h a0 8) (f_X8_placeOf a0 a1 a2 h)) fun v1 h2 =>
  if v1 ≤ 0 then
    f_X8_hasDuty_22 h2
  else
    zb2 (zif (zis h2 a0 8) (f_X8_is a0 a1 2 h2)) fun v3 h4 =>
    if v3 = 0 then
      zbool 1 h4
    else
      f_X8_hasDuty_22 h4
noncomputable def f_X8_begins_75 (r26 : Nat → Int32 → Int32 → Int32 → Int32 → zHp → Option (Int32 × zHp)) (a0 : Nat) (a1 : Int32) (a2 : Int32) (a3 : Int32) (a4 : Int32) (h : zHp) : Option (Int32 × zHp) :=
  r26 a0 a1 a2 a3 (a4 + 1) h
noncomputable def f_X8_begins_26_body (r26 : Nat → Int32 → Int32 → Int32 → Int32 → zHp → Option (Int32 × zHp)) (a0 : Nat) (a1 : Int32) (a2 : Int32) (a3 : Int32) (a4 : Int32) (h : zHp) : Option (Int32 × zHp) :=
  (zgR h a0 8 0).bind fun v1 =>
  (zld h v1 0 1).bind fun v2 =>
  if v2 ≤ a4 then
    some ((a3 - 1), h)
  else
    zb2 (zif (zis h a0 8) (f_X8_hasDuty a0 a4 a2 h)) fun v3 h4 =>
    if v3 = 0 then
      f_X8_begins_75 r26 a0 a1 a2 a3 a4 h4
    else
      zb2 (zif (zis h4 a0 8) (f_X8_of a0 a4 1 h4)) fun v5 h6 =>
      zb2 (zif (zis h6 a0 8) (f_X8_of a0 a1 1 h6)) fun v7 h8 =>
      if v5 = v7 then
        zb2 (zif (zis h8 a0 8) (f_X8_end a0 a4 h8)) fun v9 h10 =>
        if v9 = a3 then
          some (a3, h10)
        else
          f_X8_begins_75 r26 a0 a1 a2 a3 a4 h10
      else
        f_X8_begins_75 r26 a0 a1 a2 a3 a4 h8
noncomputable def f_X8_begins_26 : Nat → Nat → Int32 → Int32 → Int32 → Int32 → zHp → Option (Int32 × zHp)
  | 0 => fun _ _ _ _ _ _ => none
  | n + 1 => fun a0 a1 a2 a3 a4 h => f_X8_begins_26_body (f_X8_begins_26 n) a0 a1 a2 a3 a4 h
noncomputable def f_X8_begins (a0 : Nat) (a1 : Int32) (a2 : Int32) (h : zHp) : Option (Int32 × zHp) :=
  zb2 (zif (zis h a0 8) (f_X8_of a0 a1 2 h)) fun v1 h2 =>
  (zgR h2 a0 8 0).bind fun v3 =>
  (zld h2 v3 0 7).bind fun v4 =>
  if v4 = 0 then
    some (v1, h2)
  else
    if v1 = 0 then
      some (v1, h2)
    else
      f_X8_begins_26 zN a0 a1 a2 v1 0 h2
noncomputable def f_X8_countDuties_80 (r24 : Nat → Int32 → Int32 → zHp → Option (zHp)) (a0 : Nat) (a1 : Int32) (a2 : Int32) (h : zHp) : Option zHp :=
  r24 a0 a1 (a2 + 1) h
noncomputable def f_X8_countDuties_57_body (r24 : Nat → Int32 → Int32 → zHp → Option (zHp)) (r57 : Nat → Int32 → Int32 → Int32 → Int32 → zHp → Option (zHp)) (a0 : Nat) (a1 : Int32) (a2 : Int32) (a3 : Int32) (a4 : Int32) (h : zHp) : Option zHp :=
  if a3 ≤ a4 then
    f_X8_countDuties_80 r24 a0 a1 a2 h
  else
    (zgR h a0 8 6).bind fun v1 =>
    (zld h v1 0 a4).bind fun v2 =>
    (zst h v1 0 a4 (v2 + 1)).bind fun h3 =>
    r57 a0 a1 a2 a3 (a4 + 1) h3
noncomputable def f_X8_countDuties_57 (r24 : Nat → Int32 → Int32 → zHp → Option (zHp)) : Nat → Nat → Int32 → Int32 → Int32 → Int32 → zHp → Option (zHp)
  | 0 => fun _ _ _ _ _ _ => none
  | n + 1 => fun a0 a1 a2 a3 a4 h => f_X8_countDuties_57_body r24 (f_X8_countDuties_57 r24 n) a0 a1 a2 a3 a4 h
noncomputable def f_X8_countDuties_24_body (r24 : Nat → Int32 → Int32 → zHp → Option (zHp)) (a0 : Nat) (a1 : Int32) (a2 : Int32) (h : zHp) : Option zHp :=
  (zgR h a0 8 0).bind fun v1 =>
  (zld h v1 0 1).bind fun v2 =>
  if v2 ≤ a2 then
    some h
  else
    zb2 (zif (zis h a0 8) (f_X8_hasDuty a0 a2 a1 h)) fun v3 h4 =>
    if v3 = 0 then
      f_X8_countDuties_80 r24 a0 a1 a2 h4
    else
      zb2 (zif (zis h4 a0 8) (f_X8_end a0 a2 h4)) fun v5 h6 =>
      zb2 (zif (zis h6 a0 8) (f_X8_begins a0 a2 a1 h6)) fun v7 h8 =>
      f_X8_countDuties_57 r24 zN a0 a1 a2 v5 v7 h8
noncomputable def f_X8_countDuties_24 : Nat → Nat → Int32 → Int32 → zHp → Option (zHp)
  | 0 => fun _ _ _ _ => none
  | n + 1 => fun a0 a1 a2 h => f_X8_countDuties_24_body (f_X8_countDuties_24 n) a0 a1 a2 h
noncomputable def f_X8_countDuties_2_body (r2 : Nat → Int32 → Int32 → zHp → Option (zHp)) (a0 : Nat) (a1 : Int32) (a2 : Int32) (h : zHp) : Option zHp :=
  if 1200 ≤ a2 then
    f_X8_countDuties_24 zN a0 a1 0 h
  else
    (zgR h a0 8 6).bind fun v1 =>
    (zst h v1 0 a2 0).bind fun h2 =>
    r2 a0 a1 (a2 + 1) h2
noncomputable def f_X8_countDuties_2 : Nat → Nat → Int32 → Int32 → zHp → Option (zHp)
  | 0 => fun _ _ _ _ => none
  | n + 1 => fun a0 a1 a2 h => f_X8_countDuties_2_body (f_X8_countDuties_2 n) a0 a1 a2 h
noncomputable def f_X8_countDuties (a0 : Nat) (a1 : Int32) (h : zHp) : Option zHp :=
  f_X8_countDuties_2 zN a0 a1 0 h
noncomputable def f_X8_without_37 (r5 : Nat → Int32 → Int32 → Int32 → Int32 → zHp → Option (Int32 × zHp)) (a0 : Nat) (a1 : Int32) (a2 : Int32) (a4 : Int32) (s0 : Int32) (s1 : Int32) (h : zHp) : Option (Int32 × zHp) :=
  r5 a0 a1 a2 (s1 + s0) (a4 + 1) h
noncomputable def f_X8_without_32 (r5 : Nat → Int32 → Int32 → Int32 → Int32 → zHp → Option (Int32 × zHp)) (a0 : Nat) (a1 : Int32) (a2 : Int32) (a4 : Int32) (s0 : Int32) (h : zHp) : Option (Int32 × zHp) :=
  f_X8_without_37 r5 a0 a1 a2 a4 1 s0 h
noncomputable def f_X8_without_5_body (r5 : Nat → Int32 → Int32 → Int32 → Int32 → zHp → Option (Int32 × zHp)) (a0 : Nat) (a1 : Int32) (a2 : Int32) (a3 : Int32) (a4 : Int32) (h : zHp) : Option (Int32 × zHp) :=
  if (a1 + a2) ≤ a4 then
    some (a3, h)
  else
    if 1200 ≤ a4 then
      f_X8_without_32 r5 a0 a1 a2 a4 a3 h
    else
      (zgR h a0 8 6).bind fun v1 =>
      (zld h v1 0 a4).bind fun v2 =>
      if v2 = 0 then
        f_X8_without_32 r5 a0 a1 a2 a4 a3 h
      else
        f_X8_without_37 r5 a0 a1 a2 a4 0 a3 h
noncomputable def f_X8_without_5 : Nat → Nat → Int32 → Int32 → Int32 → Int32 → zHp → Option (Int32 × zHp)
  | 0 => fun _ _ _ _ _ _ => none
  | n + 1 => fun a0 a1 a2 a3 a4 h => f_X8_without_5_body (f_X8_without_5 n) a0 a1 a2 a3 a4 h
noncomputable def f_X8_without (a0 : Nat) (a1 : Int32) (a2 : Int32) (h : zHp) : Option (Int32 × zHp) :=
  f_X8_without_5 zN a0 a1 a2 0 a1 h
noncomputable def f_X8_longRest_44 (r7 : Nat → Int32 → Int32 → Int32 → Int32 → zHp → Option (Int32 × zHp)) (a0 : Nat) (a1 : Int32) (a3 : Int32) (a4 : Int32) (s0 : Int32) (h : zHp) : Option (Int32 × zHp) :=
  r7 a0 a1 s0 a3 (a4 + 1) h
noncomputable def f_X8_longRest_33 (r7 : Nat → Int32 → Int32 → Int32 → Int32 → zHp → Option (Int32 × zHp)) (a0 : Nat) (a1 : Int32) (a2 : Int32) (a4 : Int32) (s0 : Int32) (h : zHp) : Option (Int32 × zHp) :=
  if s0 ≤ a2 then
    f_X8_longRest_44 r7 a0 a1 s0 a4 a2 h
  else
    f_X8_longRest_44 r7 a0 a1 s0 a4 s0 h
noncomputable def f_X8_longRest_7_body (r7 : Nat → Int32 → Int32 → Int32 → Int32 → zHp → Option (Int32 × zHp)) (a0 : Nat) (a1 : Int32) (a2 : Int32) (a3 : Int32) (a4 : Int32) (h : zHp) : Option (Int32 × zHp) :=
  if (a1 + 24) ≤ a4 then
    some (a2, h)
  else
    (zgR h a0 8 6).bind fun v1 =>
    (zld h v1 0 a4).bind fun v2 =>
    if v2 = 0 then
      f_X8_longRest_33 r7 a0 a1 a2 a4 (a3 + 1) h
    else
      f_X8_longRest_33 r7 a0 a1 a2 a4 0 h
noncomputable def f_X8_longRest_7 : Nat → Nat → Int32 → Int32 → Int32 → Int32 → zHp → Option (Int32 × zHp)
  | 0 => fun _ _ _ _ _ _ => none
  | n + 1 => fun a0 a1 a2 a3 a4 h => f_X8_longRest_7_body (f_X8_longRest_7 n) a0 a1 a2 a3 a4 h
noncomputable def f_X8_longRest (a0 : Nat) (a1 : Int32) (h : zHp) : Option (Int32 × zHp) :=
  f_X8_longRest_7 zN a0 a1 0 0 a1 h
noncomputable def f_X8_rowsHold_58 (r10 : Nat → Int32 → Int32 → Int32 → Int32 → zHp → Option (Int32 × zHp)) (a0 : Nat) (a1 : Int32) (a2 : Int32) (a4 : Int32) (s0 : Int32) (s1 : Int32) (s2 : Int32) (h : zHp) : Option (Int32 × zHp) :=
  r10 a0 a1 a2 (s2 + (s1 - s0)) (a4 + 1) h
noncomputable def f_X8_rowsHold_43 (r10 : Nat → Int32 → Int32 → Int32 → Int32 → zHp → Option (Int32 × zHp)) (a0 : Nat) (a1 : Int32) (a2 : Int32) (a4 : Int32) (s0 : Int32) (s1 : Int32) (h : zHp) : Option (Int32 × zHp) :=
  (zgR h a0 8 6).bind fun v1 =>
  (zld h v1 0 a4).bind fun v2 =>
  if v2 = 0 then
    f_X8_rowsHold_58 r10 a0 a1 a2 a4 1 s0 s1 h
  else
    f_X8_rowsHold_58 r10 a0 a1 a2 a4 0 s0 s1 h
noncomputable def f_X8_rowsHold_10_body (r10 : Nat → Int32 → Int32 → Int32 → Int32 → zHp → Option (Int32 × zHp)) (a0 : Nat) (a1 : Int32) (a2 : Int32) (a3 : Int32) (a4 : Int32) (h : zHp) : Option (Int32 × zHp) :=
  if 1000 < a4 then
    zbool 1 h
  else
    if a2 ≤ a3 then
      (zgR h a0 8 6).bind fun v1 =>
      (zld h v1 0 (a4 + a1)).bind fun v2 =>
      if v2 = 0 then
        f_X8_rowsHold_43 r10 a0 a1 a2 a4 1 a3 h
      else
        f_X8_rowsHold_43 r10 a0 a1 a2 a4 0 a3 h
    else
      zbool 0 h
noncomputable def f_X8_rowsHold_10 : Nat → Nat → Int32 → Int32 → Int32 → Int32 → zHp → Option (Int32 × zHp)
  | 0 => fun _ _ _ _ _ _ => none
  | n + 1 => fun a0 a1 a2 a3 a4 h => f_X8_rowsHold_10_body (f_X8_rowsHold_10 n) a0 a1 a2 a3 a4 h
noncomputable def f_X8_rowsHold (a0 : Nat) (a1 : Int32) (a2 : Int32) (h : zHp) : Option (Int32 × zHp) :=
  zb2 (zif (zis h a0 8) (f_X8_without a0 0 a1 h)) fun v1 h2 =>
  f_X8_rowsHold_10 zN a0 a1 a2 v1 0 h2
noncomputable def f_X8_longRestsHold_72 (r14 : Nat → Int32 → Int32 → Int32 → Int32 → zHp → Option (Int32 × zHp)) (a0 : Nat) (a1 : Int32) (a2 : Int32) (a3 : Int32) (a4 : Int32) (h : zHp) : Option (Int32 × zHp) :=
  r14 a0 a1 a2 a3 (a4 + 1) h
noncomputable def f_X8_longRestsHold_51 (r14 : Nat → Int32 → Int32 → Int32 → Int32 → zHp → Option (Int32 × zHp)) (a0 : Nat) (a1 : Int32) (a2 : Int32) (a4 : Int32) (s0 : Int32) (h : zHp) : Option (Int32 × zHp) :=
  if a4 < 23 then
    f_X8_longRestsHold_72 r14 a0 a1 a2 s0 a4 h
  else
    if ((a4 - 24) + a1) ≤ s0 then
      f_X8_longRestsHold_72 r14 a0 a1 a2 s0 a4 h
    else
      zbool 0 h
noncomputable def f_X8_longRestsHold_39 (r14 : Nat → Int32 → Int32 → Int32 → Int32 → zHp → Option (Int32 × zHp)) (a0 : Nat) (a1 : Int32) (a3 : Int32) (a4 : Int32) (s0 : Int32) (h : zHp) : Option (Int32 × zHp) :=
  if s0 < a1 then
    f_X8_longRestsHold_51 r14 a0 a1 s0 a4 a3 h
  else
    f_X8_longRestsHold_51 r14 a0 a1 s0 a4 a4 h
noncomputable def f_X8_longRestsHold_14_body (r14 : Nat → Int32 → Int32 → Int32 → Int32 → zHp → Option (Int32 × zHp)) (a0 : Nat) (a1 : Int32) (a2 : Int32) (a3 : Int32) (a4 : Int32) (h : zHp) : Option (Int32 × zHp) :=
  if 1200 ≤ a4 then
    zbool 1 h
  else
    (zgR h a0 8 6).bind fun v1 =>
    (zld h v1 0 a4).bind fun v2 =>
    if v2 = 0 then
      f_X8_longRestsHold_39 r14 a0 a1 a3 a4 (a2 + 1) h
    else
      f_X8_longRestsHold_39 r14 a0 a1 a3 a4 0 h
noncomputable def f_X8_longRestsHold_14 : Nat → Nat → Int32 → Int32 → Int32 → Int32 → zHp → Option (Int32 × zHp)
  | 0 => fun _ _ _ _ _ _ => none
  | n + 1 => fun a0 a1 a2 a3 a4 h => f_X8_longRestsHold_14_body (f_X8_longRestsHold_14 n) a0 a1 a2 a3 a4 h
noncomputable def f_X8_longRestsHold (a0 : Nat) (h : zHp) : Option (Int32 × zHp) :=
  (zgR h a0 8 0).bind fun v1 =>
  (zld h v1 0 5).bind fun v2 =>
  f_X8_longRestsHold_14 zN a0 v2 0 (-1) 0 h
noncomputable def f_X8_restsHold_84 (h : zHp) : Option (Int32 × zHp) :=
  zbool 0 h
noncomputable def f_X8_restsHold_63 (a0 : Nat) (h : zHp) : Option (Int32 × zHp) :=
  (zgR h a0 8 0).bind fun v1 =>
  (zld h v1 0 6).bind fun v2 =>
  zb2 (zif (zis h a0 8) (f_X8_rowsHold a0 168 v2 h)) fun v3 h4 =>
  if v3 = 0 then
    f_X8_restsHold_84 h4
  else
    zbool 1 h4
noncomputable def f_X8_restsHold_7_body (r7 : Nat → Int32 → zHp → Option (Int32 × zHp)) (a0 : Nat) (a2 : Int32) (h : zHp) : Option (Int32 × zHp) :=
  if 1200 ≤ a2 then
    (zgR h a0 8 0).bind fun v1 =>
    (zld h v1 0 4).bind fun v2 =>
    zb2 (zif (zis h a0 8) (f_X8_rowsHold a0 24 v2 h)) fun v3 h4 =>
    if v3 = 0 then
      f_X8_restsHold_84 h4
    else
      (zgR h4 a0 8 0).bind fun v5 =>
      (zld h4 v5 0 5).bind fun v6 =>
      if v6 = 0 then
        f_X8_restsHold_63 a0 h4
      else
        zb2 (zif (zis h4 a0 8) (f_X8_longRestsHold a0 h4)) fun v7 h8 =>
        if v7 = 0 then
          f_X8_restsHold_84 h8
        else
          f_X8_restsHold_63 a0 h8
  else
    (zgR h a0 8 6).bind fun v9 =>
    (zld h v9 0 a2).bind fun v10 =>
    if v10 ≤ 1 then
      r7 a0 (a2 + 1) h
    else
      zbool 0 h
noncomputable def f_X8_restsHold_7 : Nat → Nat → Int32 → zHp → Option (Int32 × zHp)
  | 0 => fun _ _ _ => none
  | n + 1 => fun a0 a2 h => f_X8_restsHold_7_body (f_X8_restsHold_7 n) a0 a2 h
noncomputable def f_X8_restsHold (a0 : Nat) (a1 : Int32) (h : zHp) : Option (Int32 × zHp) :=
  (zif (zis h a0 8) (f_X8_countDuties a0 a1 h)).bind fun h1 =>
  f_X8_restsHold_7 zN a0 0 h1
noncomputable def f_X8_dutyHours_9_body (r9 : Nat → Int32 → Int32 → zHp → Option (Int32 × zHp)) (a0 : Nat) (a2 : Int32) (a3 : Int32) (h : zHp) : Option (Int32 × zHp) :=
  if 1200 ≤ a3 then
    some (a2, h)
  else
    (zgR h a0 8 6).bind fun v1 =>
    (zld h v1 0 a3).bind fun v2 =>
    r9 a0 (a2 + v2) (a3 + 1) h
noncomputable def f_X8_dutyHours_9 : Nat → Nat → Int32 → Int32 → zHp → Option (Int32 × zHp)
  | 0 => fun _ _ _ _ => none
  | n + 1 => fun a0 a2 a3 h => f_X8_dutyHours_9_body (f_X8_dutyHours_9 n) a0 a2 a3 h
noncomputable def f_X8_dutyHours (a0 : Nat) (a1 : Int32) (h : zHp) : Option (Int32 × zHp) :=
  (zif (zis h a0 8) (f_X8_countDuties a0 a1 h)).bind fun h1 =>
  f_X8_dutyHours_9 zN a0 0 0 h1
noncomputable def f_X8_reason_86 (a0 : Nat) (a1 : Int32) (a2 : Int32) (a3 : Int32) (h : zHp) : Option (Int32 × zHp) :=
  zb2 (zif (zis h a0 8) (f_X8_placeOf a0 a2 a1 h)) fun v1 h2 =>
  if v1 ≤ 0 then
    (zif (zis h2 a0 8) (f_X8_setPlace a0 a2 a1 (a3 + 1) h2)).bind fun h3 =>
    zb2 (zif (zis h3 a0 8) (f_X8_restsHold a0 a1 h3)) fun v4 h5 =>
    (zif (zis h5 a0 8) (f_X8_setPlace a0 a2 a1 0 h5)).bind fun h6 =>
    if v4 = 0 then
      some (6, h6)
    else
      some (0, h6)
  else
    some (5, h2)
noncomputable def f_X8_reason (a0 : Nat) (a1 : Int32) (a2 : Int32) (a3 : Int32) (h : zHp) : Option (Int32 × zHp) :=
  zb2 (zif (zis h a0 8) (f_X8_is a0 a2 0 h)) fun v1 h2 =>
  if v1 = 0 then
    some (1, h2)
  else
    zb2 (zif (zis h2 a0 8) (f_X8_of a0 a2 2 h2)) fun v3 h4 =>
    (zgR h4 a0 8 0).bind fun v5 =>
    (zld h4 v5 0 0).bind fun v6 =>
    if v6 ≤ v3 then
      zb2 (zif (zis h4 a0 8) (f_X8_taken a0 a2 a3 h4)) fun v7 h8 =>
      zb2 (zif (zis h8 a0 8) (f_X8_of a0 a2 (4 + a3) h8)) fun v9 h10 =>
      if v7 < v9 then
        zb2 (zif (zis h10 a0 8) (f_X8_has a0 a1 a3 h10)) fun v11 h12 =>
        zb2 (zif (zis h12 a0 8) (f_X8_end a0 a2 h12)) fun v13 h14 =>
        if v13 ≤ v11 then
          zb2 (zif (zis h14 a0 8) (f_X8_isSick a0 a1 h14)) fun v15 h16 =>
          if v15 = 0 then
            f_X8_reason_86 a0 a1 a2 a3 h16
          else
            zb2 (zif (zis h16 a0 8) (f_X8_of a0 a2 2 h16)) fun v17 h18 =>
            zb2 (zif (zis h18 a0 8) (f_X8_has a0 a1 4 h18)) fun v19 h20 =>
            if v19 ≤ v17 then
              f_X8_reason_86 a0 a1 a2 a3 h20
            else
              some (4, h20)
        else
          some (3, h14)
      else
        some (2, h10)
    else
      some (1, h4)
noncomputable def f_X8_cover_2_body (r2 : Nat → Int32 → Int32 → Int32 → zHp → Option (Int32 × zHp)) (a0 : Nat) (a1 : Int32) (a2 : Int32) (a3 : Int32) (h : zHp) : Option (Int32 × zHp) :=
  (zgR h a0 8 0).bind fun v1 =>
  (zld h v1 0 (1041 + a2)).bind fun v2 =>
  if v2 ≤ a3 then
    zbool 0 h
  else
    (zgR h a0 8 0).bind fun v3 =>
    (zld h v3 0 ((1045 + (12 * a2)) + a3)).bind fun v4 =>
    zb2 (zif (zis h a0 8) (f_X8_reason a0 v4 a1 a2 h)) fun v5 h6 =>
    if v5 = 0 then
      (zif (zis h6 a0 8) (f_X8_setPlace a0 a1 v4 (a2 + 1) h6)).bind fun h7 =>
      zb2 (zif (zis h7 a0 8) (f_X8_has a0 v4 5 h7)) fun v8 h9 =>
      (zif (zis h9 a0 8) (f_X8_note a0 v4 5 (v8 + 1) h9)).bind fun h10 =>
      (zgR h10 a0 8 0).bind fun v11 =>
      (zld h10 v11 0 3).bind fun v12 =>
      (zst h10 v11 0 3 (v12 + 1)).bind fun h13 =>
      zbool 1 h13
    else
      r2 a0 a1 a2 (a3 + 1) h6
noncomputable def f_X8_cover_2 : Nat → Nat → Int32 → Int32 → Int32 → zHp → Option (Int32 × zHp)
  | 0 => fun _ _ _ _ _ => none
  | n + 1 => fun a0 a1 a2 a3 h => f_X8_cover_2_body (f_X8_cover_2 n) a0 a1 a2 a3 h
noncomputable def f_X8_cover (a0 : Nat) (a1 : Int32) (a2 : Int32) (h : zHp) : Option (Int32 × zHp) :=
  f_X8_cover_2 zN a0 a1 a2 0 h
noncomputable def f_X8_clearPlaces_2_body (r2 : Nat → Int32 → Int32 → zHp → Option (zHp)) (a0 : Nat) (a1 : Int32) (a2 : Int32) (h : zHp) : Option zHp :=
  if 12 ≤ a2 then
    some h
  else
    (zif (zis h a0 8) (f_X8_setPlace a0 a1 a2 0 h)).bind fun h1 =>
    r2 a0 a1 (a2 + 1) h1
noncomputable def f_X8_clearPlaces_2 : Nat → Nat → Int32 → Int32 → zHp → Option (zHp)
  | 0 => fun _ _ _ _ => none
  | n + 1 => fun a0 a1 a2 h => f_X8_clearPlaces_2_body (f_X8_clearPlaces_2 n) a0 a1 a2 h
noncomputable def f_X8_clearPlaces (a0 : Nat) (a1 : Int32) (h : zHp) : Option zHp :=
  f_X8_clearPlaces_2 zN a0 a1 0 h
noncomputable def f_X8_cancelNow (a0 : Nat) (a1 : Int32) (h : zHp) : Option zHp :=
  (zif (zis h a0 8) (f_X8_put a0 a1 0 2 h)).bind fun h1 =>
  (zif (zis h1 a0 8) (f_X8_clearPlaces a0 a1 h1)).bind fun h2 =>
  some h2
noncomputable def f_X8_sickNow_207 (r137 : Nat → Int32 → Int32 → Int32 → zHp → Option (Int32 × zHp)) (r146 : Nat → Int32 → Int32 → Int32 → Int32 → zHp → Option (Int32 × zHp)) (a0 : Nat) (a3 : Int32) (a4 : Int32) (a5 : Int32) (a6 : Int32) (h : zHp) : Option (Int32 × zHp) :=
  r146 a0 a3 a4 a5 (a6 + 1) h
noncomputable def f_X8_sickNow_204 (r137 : Nat → Int32 → Int32 → Int32 → zHp → Option (Int32 × zHp)) (r146 : Nat → Int32 → Int32 → Int32 → Int32 → zHp → Option (Int32 × zHp)) (a0 : Nat) (a3 : Int32) (a5 : Int32) (a6 : Int32) (s0 : Int32) (s1 : Int32) (h : zHp) : Option (Int32 × zHp) :=
  f_X8_sickNow_207 r137 r146 a0 a3 (s1 + s0) a5 a6 h
noncomputable def f_X8_sickNow_146_body (r137 : Nat → Int32 → Int32 → Int32 → zHp → Option (Int32 × zHp)) (r146 : Nat → Int32 → Int32 → Int32 → Int32 → zHp → Option (Int32 × zHp)) (a0 : Nat) (a3 : Int32) (a4 : Int32) (a5 : Int32) (a6 : Int32) (h : zHp) : Option (Int32 × zHp) :=
  (zgR h a0 8 0).bind fun v1 =>
  (zld h v1 0 1).bind fun v2 =>
  if v2 ≤ a6 then
    r137 a0 a3 a4 (a5 + 1) h
  else
    (zgR h a0 8 7).bind fun v3 =>
    (zld h v3 0 a6).bind fun v4 =>
    if v4 ≤ 0 then
      f_X8_sickNow_207 r137 r146 a0 a3 a4 a5 a6 h
    else
      zb2 (zif (zis h a0 8) (f_X8_of a0 a6 2 h)) fun v5 h6 =>
      if v5 = a5 then
        (zgR h6 a0 8 7).bind fun v7 =>
        (zld h6 v7 0 a6).bind fun v8 =>
        zb2 (zif (zis h6 a0 8) (f_X8_cover a0 a6 (v8 - 1) h6)) fun v9 h10 =>
        if v9 = 0 then
          f_X8_sickNow_204 r137 r146 a0 a3 a5 a6 1 a4 h10
        else
          f_X8_sickNow_204 r137 r146 a0 a3 a5 a6 0 a4 h10
      else
        f_X8_sickNow_207 r137 r146 a0 a3 a4 a5 a6 h6
noncomputable def f_X8_sickNow_146 (r137 : Nat → Int32 → Int32 → Int32 → zHp → Option (Int32 × zHp)) : Nat → Nat → Int32 → Int32 → Int32 → Int32 → zHp → Option (Int32 × zHp)
  | 0 => fun _ _ _ _ _ _ => none
  | n + 1 => fun a0 a3 a4 a5 a6 h => f_X8_sickNow_146_body r137 (f_X8_sickNow_146 r137 n) a0 a3 a4 a5 a6 h
noncomputable def f_X8_sickNow_137_body (r137 : Nat → Int32 → Int32 → Int32 → zHp → Option (Int32 × zHp)) (a0 : Nat) (a3 : Int32) (a4 : Int32) (a5 : Int32) (h : zHp) : Option (Int32 × zHp) :=
  if a3 ≤ a5 then
    some (a4, h)
  else
    f_X8_sickNow_146 r137 zN a0 a3 a4 a5 0 h
noncomputable def f_X8_sickNow_137 : Nat → Nat → Int32 → Int32 → Int32 → zHp → Option (Int32 × zHp)
  | 0 => fun _ _ _ _ _ => none
  | n + 1 => fun a0 a3 a4 a5 h => f_X8_sickNow_137_body (f_X8_sickNow_137 n) a0 a3 a4 a5 h
noncomputable def f_X8_sickNow_120 (r19 : Nat → Int32 → Int32 → Int32 → zHp → Option (Int32 × zHp)) (a0 : Nat) (a1 : Int32) (a3 : Int32) (a4 : Int32) (h : zHp) : Option (Int32 × zHp) :=
  r19 a0 a1 a3 (a4 + 1) h
noncomputable def f_X8_sickNow_106 (r19 : Nat → Int32 → Int32 → Int32 → zHp → Option (Int32 × zHp)) (a0 : Nat) (a1 : Int32) (a3 : Int32) (a4 : Int32) (a5 : Int32) (s0 : Int32) (s1 : Int32) (s2 : Nat) (h : zHp) : Option (Int32 × zHp) :=
  (zst h s2 0 s1 s0).bind fun h1 =>
  if a5 = 0 then
    f_X8_sickNow_120 r19 a0 a1 a3 a4 h1
  else
    (zif (zis h1 a0 8) (f_X8_setPlace a0 a4 a1 0 h1)).bind fun h2 =>
    f_X8_sickNow_120 r19 a0 a1 a3 a4 h2
noncomputable def f_X8_sickNow_82 (r19 : Nat → Int32 → Int32 → Int32 → zHp → Option (Int32 × zHp)) (a0 : Nat) (a1 : Int32) (a3 : Int32) (a4 : Int32) (s0 : Int32) (h : zHp) : Option (Int32 × zHp) :=
  (zgR h a0 8 7).bind fun v1 =>
  if s0 = 0 then
    f_X8_sickNow_106 r19 a0 a1 a3 a4 s0 0 a4 v1 h
  else
    zb2 (zif (zis h a0 8) (f_X8_placeOf a0 a4 a1 h)) fun v2 h3 =>
    f_X8_sickNow_106 r19 a0 a1 a3 a4 s0 v2 a4 v1 h3
noncomputable def f_X8_sickNow_81 (r19 : Nat → Int32 → Int32 → Int32 → zHp → Option (Int32 × zHp)) (a0 : Nat) (a1 : Int32) (a3 : Int32) (a4 : Int32) (h : zHp) : Option (Int32 × zHp) :=
  f_X8_sickNow_82 r19 a0 a1 a3 a4 0 h
noncomputable def f_X8_sickNow_19_body (r19 : Nat → Int32 → Int32 → Int32 → zHp → Option (Int32 × zHp)) (a0 : Nat) (a1 : Int32) (a3 : Int32) (a4 : Int32) (h : zHp) : Option (Int32 × zHp) :=
  (zgR h a0 8 0).bind fun v1 =>
  (zld h v1 0 1).bind fun v2 =>
  if v2 ≤ a4 then
    (zgR h a0 8 0).bind fun v3 =>
    (zld h v3 0 0).bind fun v4 =>
    f_X8_sickNow_137 zN a0 a3 0 v4 h
  else
    zb2 (zif (zis h a0 8) (f_X8_is a0 a4 0 h)) fun v5 h6 =>
    if v5 = 0 then
      f_X8_sickNow_81 r19 a0 a1 a3 a4 h6
    else
      zb2 (zif (zis h6 a0 8) (f_X8_of a0 a4 2 h6)) fun v7 h8 =>
      (zgR h8 a0 8 0).bind fun v9 =>
      (zld h8 v9 0 0).bind fun v10 =>
      if v7 < v10 then
        f_X8_sickNow_81 r19 a0 a1 a3 a4 h8
      else
        zb2 (zif (zis h8 a0 8) (f_X8_of a0 a4 2 h8)) fun v11 h12 =>
        if a3 ≤ v11 then
          f_X8_sickNow_81 r19 a0 a1 a3 a4 h12
        else
          zb2 (zif (zis h12 a0 8) (f_X8_placeOf a0 a4 a1 h12)) fun v13 h14 =>
          if v13 ≤ 0 then
            f_X8_sickNow_81 r19 a0 a1 a3 a4 h14
          else
            f_X8_sickNow_82 r19 a0 a1 a3 a4 1 h14
noncomputable def f_X8_sickNow_19 : Nat → Nat → Int32 → Int32 → Int32 → zHp → Option (Int32 × zHp)
  | 0 => fun _ _ _ _ _ => none
  | n + 1 => fun a0 a1 a3 a4 h => f_X8_sickNow_19_body (f_X8_sickNow_19 n) a0 a1 a3 a4 h
noncomputable def f_X8_sickNow (a0 : Nat) (a1 : Int32) (a2 : Int32) (h : zHp) : Option (Int32 × zHp) :=
  (zgR h a0 8 0).bind fun v1 =>
  (zld h v1 0 0).bind fun v2 =>
  (zif (zis h a0 8) (f_X8_note a0 a1 4 (v2 + a2) h)).bind fun h3 =>
  f_X8_sickNow_19 zN a0 a1 (v2 + a2) 0 h3
noncomputable def f_X8_passHour_59 (r2 : Nat → Int32 → zHp → Option (zHp)) (a0 : Nat) (a1 : Int32) (h : zHp) : Option zHp :=
  r2 a0 (a1 + 1) h
noncomputable def f_X8_passHour_2_body (r2 : Nat → Int32 → zHp → Option (zHp)) (a0 : Nat) (a1 : Int32) (h : zHp) : Option zHp :=
  (zgR h a0 8 0).bind fun v1 =>
  (zld h v1 0 1).bind fun v2 =>
  if v2 ≤ a1 then
    (zgR h a0 8 0).bind fun v3 =>
    (zld h v3 0 0).bind fun v4 =>
    (zst h v3 0 0 (v4 + 1)).bind fun h5 =>
    some h5
  else
    zb2 (zif (zis h a0 8) (f_X8_is a0 a1 0 h)) fun v6 h7 =>
    if v6 = 0 then
      f_X8_passHour_59 r2 a0 a1 h7
    else
      zb2 (zif (zis h7 a0 8) (f_X8_of a0 a1 2 h7)) fun v8 h9 =>
      (zgR h9 a0 8 0).bind fun v10 =>
      (zld h9 v10 0 0).bind fun v11 =>
      if v8 = v11 then
        zb2 (zif (zis h9 a0 8) (f_X8_freeOf a0 a1 h9)) fun v12 h13 =>
        if v12 = 0 then
          (zif (zis h13 a0 8) (f_X8_put a0 a1 0 1 h13)).bind fun h15 =>
          f_X8_passHour_59 r2 a0 a1 h15
        else
          (zif (zis h13 a0 8) (f_X8_cancelNow a0 a1 h13)).bind fun h14 =>
          f_X8_passHour_59 r2 a0 a1 h14
      else
        f_X8_passHour_59 r2 a0 a1 h9
noncomputable def f_X8_passHour_2 : Nat → Nat → Int32 → zHp → Option (zHp)
  | 0 => fun _ _ _ => none
  | n + 1 => fun a0 a1 h => f_X8_passHour_2_body (f_X8_passHour_2 n) a0 a1 h
noncomputable def f_X8_passHour (a0 : Nat) (h : zHp) : Option zHp :=
  f_X8_passHour_2 zN a0 0 h
noncomputable def f_X8_digit_4_body (r4 : Int32 → Int32 → zHp → Option (Int32 × zHp)) (a2 : Int32) (a3 : Int32) (h : zHp) : Option (Int32 × zHp) :=
  if 3 ≤ a3 then
    (zrem a2 10).bind fun v1 =>
    some (v1, h)
  else
    (zdiv a2 10).bind fun v2 =>
    r4 v2 (a3 + 1) h
noncomputable def f_X8_digit_4 : Nat → Int32 → Int32 → zHp → Option (Int32 × zHp)
  | 0 => fun _ _ _ => none
  | n + 1 => fun a2 a3 h => f_X8_digit_4_body (f_X8_digit_4 n) a2 a3 h
noncomputable def f_X8_digit (a0 : Int32) (a1 : Int32) (h : zHp) : Option (Int32 × zHp) :=
  f_X8_digit_4 zN a0 a1 h
noncomputable def f_X8_isSet_15_body (r15 : Int32 → Int32 → zHp → Option (Int32 × zHp)) (a0 : Int32) (a1 : Int32) (h : zHp) : Option (Int32 × zHp) :=
  if 4 ≤ a1 then
    zbool 1 h
  else
    zb2 (f_X8_digit a0 a1 h) fun v1 h2 =>
    if v1 ≤ 3 then
      r15 a0 (a1 + 1) h2
    else
      zbool 0 h2
noncomputable def f_X8_isSet_15 : Nat → Int32 → Int32 → zHp → Option (Int32 × zHp)
  | 0 => fun _ _ _ => none
  | n + 1 => fun a0 a1 h => f_X8_isSet_15_body (f_X8_isSet_15 n) a0 a1 h
noncomputable def f_X8_isSet (a0 : Int32) (h : zHp) : Option (Int32 × zHp) :=
  zb2 (f_X8_in a0 1 3333 h) fun v1 h2 =>
  if v1 = 0 then
    zbool 0 h2
  else
    f_X8_isSet_15 zN a0 0 h2
noncomputable def f_X8_hinders_109 (r51 : Nat → Int32 → Int32 → Int32 → Int32 → zHp → Option (Int32 × zHp)) (a0 : Nat) (a1 : Int32) (a2 : Int32) (a3 : Int32) (a5 : Int32) (h : zHp) : Option (Int32 × zHp) :=
  r51 a0 a1 a2 a3 (a5 + 1) h
noncomputable def f_X8_hinders_51_body (r51 : Nat → Int32 → Int32 → Int32 → Int32 → zHp → Option (Int32 × zHp)) (a0 : Nat) (a1 : Int32) (a2 : Int32) (a3 : Int32) (a5 : Int32) (h : zHp) : Option (Int32 × zHp) :=
  (zgR h a0 8 0).bind fun v1 =>
  (zld h v1 0 1).bind fun v2 =>
  if v2 ≤ a5 then
    (zgR h a0 8 0).bind fun v3 =>
    (zld h v3 0 1).bind fun v4 =>
    if v4 = 48 then
      some ((-3), h)
    else
      some (0, h)
  else
    zb2 (zif (zis h a0 8) (f_X8_is a0 a5 2 h)) fun v5 h6 =>
    if v5 = 0 then
      zb2 (zif (zis h6 a0 8) (f_X8_of a0 a5 1 h6)) fun v7 h8 =>
      if v7 = a1 then
        zb2 (zif (zis h8 a0 8) (f_X8_of a0 a5 2 h8)) fun v9 h10 =>
        if (a2 + a3) ≤ v9 then
          f_X8_hinders_109 r51 a0 a1 a2 a3 a5 h10
        else
          zb2 (zif (zis h10 a0 8) (f_X8_end a0 a5 h10)) fun v11 h12 =>
          if v11 ≤ a2 then
            f_X8_hinders_109 r51 a0 a1 a2 a3 a5 h12
          else
            some ((-4), h12)
      else
        f_X8_hinders_109 r51 a0 a1 a2 a3 a5 h8
    else
      f_X8_hinders_109 r51 a0 a1 a2 a3 a5 h6
noncomputable def f_X8_hinders_51 : Nat → Nat → Int32 → Int32 → Int32 → Int32 → zHp → Option (Int32 × zHp)
  | 0 => fun _ _ _ _ _ _ => none
  | n + 1 => fun a0 a1 a2 a3 a5 h => f_X8_hinders_51_body (f_X8_hinders_51 n) a0 a1 a2 a3 a5 h
noncomputable def f_X8_hinders (a0 : Nat) (a1 : Int32) (a2 : Int32) (a3 : Int32) (a4 : Int32) (h : zHp) : Option (Int32 × zHp) :=
  zb2 (f_X8_in a1 0 5 h) fun v1 h2 =>
  if v1 = 0 then
    some ((-1), h2)
  else
    (zgR h2 a0 8 0).bind fun v3 =>
    (zld h2 v3 0 0).bind fun v4 =>
    zb2 (f_X8_in a2 v4 900 h2) fun v5 h6 =>
    if v5 = 0 then
      some ((-2), h6)
    else
      zb2 (f_X8_in a3 1 12 h6) fun v7 h8 =>
      if v7 = 0 then
        some ((-2), h8)
      else
        zb2 (f_X8_isSet a4 h8) fun v9 h10 =>
        if v9 = 0 then
          some ((-2), h10)
        else
          f_X8_hinders_51 zN a0 a1 a2 a3 0 h10
noncomputable def f_X8_addSailing_53_body (r53 : Nat → Int32 → Int32 → Int32 → zHp → Option (Int32 × zHp)) (a0 : Nat) (a4 : Int32) (a5 : Int32) (a6 : Int32) (h : zHp) : Option (Int32 × zHp) :=
  if 4 ≤ a6 then
    some (a5, h)
  else
    zb2 (f_X8_digit a4 a6 h) fun v1 h2 =>
    (zif (zis h2 a0 8) (f_X8_put a0 a5 (4 + a6) v1 h2)).bind fun h3 =>
    r53 a0 a4 a5 (a6 + 1) h3
noncomputable def f_X8_addSailing_53 : Nat → Nat → Int32 → Int32 → Int32 → zHp → Option (Int32 × zHp)
  | 0 => fun _ _ _ _ _ => none
  | n + 1 => fun a0 a4 a5 a6 h => f_X8_addSailing_53_body (f_X8_addSailing_53 n) a0 a4 a5 a6 h
noncomputable def f_X8_addSailing (a0 : Nat) (a1 : Int32) (a2 : Int32) (a3 : Int32) (a4 : Int32) (h : zHp) : Option (Int32 × zHp) :=
  (zgR h a0 8 0).bind fun v1 =>
  (zld h v1 0 1).bind fun v2 =>
  (zgR h a0 8 0).bind fun v3 =>
  (zld h v3 0 1).bind fun v4 =>
  (zst h v3 0 1 (v4 + 1)).bind fun h5 =>
  (zif (zis h5 a0 8) (f_X8_put a0 v2 0 0 h5)).bind fun h6 =>
  (zif (zis h6 a0 8) (f_X8_put a0 v2 1 a1 h6)).bind fun h7 =>
  (zif (zis h7 a0 8) (f_X8_put a0 v2 2 a2 h7)).bind fun h8 =>
  (zif (zis h8 a0 8) (f_X8_put a0 v2 3 a3 h8)).bind fun h9 =>
  f_X8_addSailing_53 zN a0 a4 v2 0 h9
noncomputable def f_X8_sailing (a0 : Nat) (a1 : Int32) (a2 : Int32) (a3 : Int32) (a4 : Int32) (h : zHp) : Option (Int32 × zHp) :=
  zb2 (zif (zis h a0 8) (f_X8_hinders a0 a1 a2 a3 a4 h)) fun v1 h2 =>
  if 0 ≤ v1 then
    (zif (zis h2 a0 8) (f_X8_record a0 h2)).bind fun h3 =>
    zb2 (zif (zis h3 a0 8) (f_X8_addSailing a0 a1 a2 a3 a4 h3)) fun v4 h5 =>
    some (v4, h5)
  else
    some (v1, h2)
noncomputable def f_X8_isNext_32 (h : zHp) : Option (Int32 × zHp) :=
  zbool 0 h
noncomputable def f_X8_isNext (a0 : Nat) (a1 : Int32) (a2 : Int32) (h : zHp) : Option (Int32 × zHp) :=
  (zgI h a0 8 8).bind fun v1 =>
  (zgI h a0 8 10).bind fun v2 =>
  if v2 ≤ v1 then
    f_X8_isNext_32 h
  else
    (zgR h a0 8 4).bind fun v3 =>
    (zgI h a0 8 8).bind fun v4 =>
    (zld h v3 0 v4).bind fun v5 =>
    zb2 (f_X8_in v5 a1 a2 h) fun v6 h7 =>
    if v6 = 0 then
      f_X8_isNext_32 h7
    else
      zbool 1 h7
noncomputable def f_X8_number_123 (a0 : Nat) (a1 : Int32) (a4 : Int32) (h : zHp) : Option (Int32 × zHp) :=
  (zgR h a0 8 5).bind fun v1 =>
  (zst h v1 0 a1 a4).bind fun h2 =>
  zbool 1 h2
noncomputable def f_X8_number_52_body (r52 : Nat → Int32 → Int32 → Int32 → zHp → Option (Int32 × zHp)) (a0 : Nat) (a1 : Int32) (a3 : Int32) (a4 : Int32) (h : zHp) : Option (Int32 × zHp) :=
  if a4 ≤ 0 then
    f_X8_number_123 a0 a1 a4 h
  else
    zb2 (zif (zis h a0 8) (f_X8_isNext a0 48 57 h)) fun v1 h2 =>
    if v1 = 0 then
      f_X8_number_123 a0 a1 a4 h2
    else
      (zgR h2 a0 8 4).bind fun v3 =>
      (zgI h2 a0 8 8).bind fun v4 =>
      (zld h2 v3 0 v4).bind fun v5 =>
      if a3 < (((10 * a4) + v5) - 48) then
        f_X8_number_123 a0 a1 a4 h2
      else
        (zgR h2 a0 8 4).bind fun v6 =>
        (zgI h2 a0 8 8).bind fun v7 =>
        (zld h2 v6 0 v7).bind fun v8 =>
        (zgI h2 a0 8 8).bind fun v9 =>
        (zpV h2 a0 8 8 (.int (v9 + 1))).bind fun h10 =>
        r52 a0 a1 a3 (((10 * a4) + v8) - 48) h10
noncomputable def f_X8_number_52 : Nat → Nat → Int32 → Int32 → Int32 → zHp → Option (Int32 × zHp)
  | 0 => fun _ _ _ _ _ => none
  | n + 1 => fun a0 a1 a3 a4 h => f_X8_number_52_body (f_X8_number_52 n) a0 a1 a3 a4 h
noncomputable def f_X8_number_20 (a0 : Nat) (a1 : Int32) (a3 : Int32) (s0 : Int32) (s1 : Int32) (s2 : Nat) (h : zHp) : Option (Int32 × zHp) :=
  zb2 (zif (zis h s2 8) (f_X8_isNext s2 s1 s0 h)) fun v1 h2 =>
  if v1 = 0 then
    zbool 0 h2
  else
    (zgR h2 a0 8 4).bind fun v3 =>
    (zgI h2 a0 8 8).bind fun v4 =>
    (zld h2 v3 0 v4).bind fun v5 =>
    (zgI h2 a0 8 8).bind fun v6 =>
    (zpV h2 a0 8 8 (.int (v6 + 1))).bind fun h7 =>
    f_X8_number_52 zN a0 a1 a3 (v5 - 48) h7
noncomputable def f_X8_number (a0 : Nat) (a1 : Int32) (a2 : Int32) (a3 : Int32) (h : zHp) : Option (Int32 × zHp) :=
  if 9 ≤ a3 then
    f_X8_number_20 a0 a1 a3 57 (48 + a2) a0 h
  else
    f_X8_number_20 a0 a1 a3 (48 + a3) (48 + a2) a0 h
noncomputable def f_X8_sign_21 (a2 : Int32) (s0 : Int32) (s1 : Int32) (s2 : Nat) (h : zHp) : Option (Int32 × zHp) :=
  (zpV h s2 8 8 (.int (s1 + s0))).bind fun h1 =>
  zbool a2 h1
noncomputable def f_X8_sign (a0 : Nat) (a1 : Int32) (h : zHp) : Option (Int32 × zHp) :=
  zb2 (zif (zis h a0 8) (f_X8_isNext a0 a1 a1 h)) fun v1 h2 =>
  (zgI h2 a0 8 8).bind fun v3 =>
  if v1 = 0 then
    f_X8_sign_21 v1 0 v3 a0 h2
  else
    f_X8_sign_21 v1 1 v3 a0 h2
noncomputable def f_X8_readSailing_66_body (r66 : Nat → Int32 → Int32 → zHp → Option (Int32 × zHp)) (a0 : Nat) (a1 : Int32) (a2 : Int32) (h : zHp) : Option (Int32 × zHp) :=
  if 4 ≤ a2 then
    (zgR h a0 8 5).bind fun v1 =>
    (zst h v1 0 3 a1).bind fun h2 =>
    zbool 1 h2
  else
    zb2 (zif (zis h a0 8) (f_X8_isNext a0 48 51 h)) fun v3 h4 =>
    if v3 = 0 then
      zbool 0 h4
    else
      (zgR h4 a0 8 4).bind fun v5 =>
      (zgI h4 a0 8 8).bind fun v6 =>
      (zld h4 v5 0 v6).bind fun v7 =>
      (zgI h4 a0 8 8).bind fun v8 =>
      (zpV h4 a0 8 8 (.int (v8 + 1))).bind fun h9 =>
      r66 a0 (((10 * a1) + v7) - 48) (a2 + 1) h9
noncomputable def f_X8_readSailing_66 : Nat → Nat → Int32 → Int32 → zHp → Option (Int32 × zHp)
  | 0 => fun _ _ _ _ => none
  | n + 1 => fun a0 a1 a2 h => f_X8_readSailing_66_body (f_X8_readSailing_66 n) a0 a1 a2 h
noncomputable def f_X8_readSailing (a0 : Nat) (h : zHp) : Option (Int32 × zHp) :=
  zb2 (zif (zis h a0 8) (f_X8_number a0 0 0 5 h)) fun v1 h2 =>
  if v1 = 0 then
    zbool 0 h2
  else
    zb2 (zif (zis h2 a0 8) (f_X8_sign a0 58 h2)) fun v3 h4 =>
    if v3 = 0 then
      zbool 0 h4
    else
      zb2 (zif (zis h4 a0 8) (f_X8_number a0 1 0 900 h4)) fun v5 h6 =>
      if v5 = 0 then
        zbool 0 h6
      else
        zb2 (zif (zis h6 a0 8) (f_X8_sign a0 43 h6)) fun v7 h8 =>
        if v7 = 0 then
          zbool 0 h8
        else
          zb2 (zif (zis h8 a0 8) (f_X8_number a0 2 1 12 h8)) fun v9 h10 =>
          if v9 = 0 then
            zbool 0 h10
          else
            zb2 (zif (zis h10 a0 8) (f_X8_sign a0 61 h10)) fun v11 h12 =>
            if v11 = 0 then
              zbool 0 h12
            else
              f_X8_readSailing_66 zN a0 0 0 h12
noncomputable def f_X8_readAll_9_body (r9 : Nat → Int32 → Int32 → zHp → Option (Int32 × zHp)) (a0 : Nat) (a1 : Int32) (a2 : Int32) (h : zHp) : Option (Int32 × zHp) :=
  if a2 = 0 then
    (zgI h a0 8 8).bind fun v1 =>
    (zgI h a0 8 10).bind fun v2 =>
    if v2 ≤ v1 then
      some (a1, h)
    else
      (zgI h a0 8 8).bind fun v3 =>
      some (((-100) - v3), h)
  else
    zb2 (zif (zis h a0 8) (f_X8_readSailing a0 h)) fun v4 h5 =>
    if v4 = 0 then
      (zgI h5 a0 8 8).bind fun v8 =>
      some (((-100) - v8), h5)
    else
      zb2 (zif (zis h5 a0 8) (f_X8_sign a0 59 h5)) fun v6 h7 =>
      r9 a0 (a1 + 1) v6 h7
noncomputable def f_X8_readAll_9 : Nat → Nat → Int32 → Int32 → zHp → Option (Int32 × zHp)
  | 0 => fun _ _ _ _ => none
  | n + 1 => fun a0 a1 a2 h => f_X8_readAll_9_body (f_X8_readAll_9 n) a0 a1 a2 h
noncomputable def f_X8_readAll (a0 : Nat) (h : zHp) : Option (Int32 × zHp) :=
  (zpV h a0 8 8 (.int 0)).bind fun h1 =>
  f_X8_readAll_9 zN a0 0 1 h1
noncomputable def f_X8_sailings_131_body (r131 : Nat → Int32 → Int32 → zHp → Option (Int32 × zHp)) (a0 : Nat) (a1 : Int32) (a2 : Int32) (h : zHp) : Option (Int32 × zHp) :=
  if a1 ≤ a2 then
    some (a1, h)
  else
    zb2 (zif (zis h a0 8) (f_X8_readSailing a0 h)) fun v1 h2 =>
    (zgR h2 a0 8 5).bind fun v3 =>
    (zld h2 v3 0 0).bind fun v4 =>
    (zgR h2 a0 8 5).bind fun v5 =>
    (zld h2 v5 0 1).bind fun v6 =>
    (zgR h2 a0 8 5).bind fun v7 =>
    (zld h2 v7 0 2).bind fun v8 =>
    (zgR h2 a0 8 5).bind fun v9 =>
    (zld h2 v9 0 3).bind fun v10 =>
    zb2 (zif (zis h2 a0 8) (f_X8_addSailing a0 v4 v6 v8 v10 h2)) fun v11 h12 =>
    (zgI h12 a0 8 8).bind fun v13 =>
    (zpV h12 a0 8 8 (.int (v13 + 1))).bind fun h14 =>
    r131 a0 a1 (a2 + 1) h14
noncomputable def f_X8_sailings_131 : Nat → Nat → Int32 → Int32 → zHp → Option (Int32 × zHp)
  | 0 => fun _ _ _ _ => none
  | n + 1 => fun a0 a1 a2 h => f_X8_sailings_131_body (f_X8_sailings_131 n) a0 a1 a2 h
noncomputable def f_X8_sailings_22_body (r22 : Nat → Int32 → Int32 → zHp → Option (Int32 × zHp)) (a0 : Nat) (a1 : Int32) (a2 : Int32) (h : zHp) : Option (Int32 × zHp) :=
  if a1 ≤ a2 then
    (zif (zis h a0 8) (f_X8_takeBack a0 h)).bind fun h1 =>
    (zif (zis h1 a0 8) (f_X8_record a0 h1)).bind fun h2 =>
    (zpV h2 a0 8 8 (.int 0)).bind fun h3 =>
    f_X8_sailings_131 zN a0 a1 0 h3
  else
    zb2 (zif (zis h a0 8) (f_X8_readSailing a0 h)) fun v4 h5 =>
    (zgR h5 a0 8 5).bind fun v6 =>
    (zld h5 v6 0 0).bind fun v7 =>
    (zgR h5 a0 8 5).bind fun v8 =>
    (zld h5 v8 0 1).bind fun v9 =>
    (zgR h5 a0 8 5).bind fun v10 =>
    (zld h5 v10 0 2).bind fun v11 =>
    (zgR h5 a0 8 5).bind fun v12 =>
    (zld h5 v12 0 3).bind fun v13 =>
    zb2 (zif (zis h5 a0 8) (f_X8_hinders a0 v7 v9 v11 v13 h5)) fun v14 h15 =>
    if 0 ≤ v14 then
      (zgR h15 a0 8 5).bind fun v16 =>
      (zld h15 v16 0 0).bind fun v17 =>
      (zgR h15 a0 8 5).bind fun v18 =>
      (zld h15 v18 0 1).bind fun v19 =>
      (zgR h15 a0 8 5).bind fun v20 =>
      (zld h15 v20 0 2).bind fun v21 =>
      (zgR h15 a0 8 5).bind fun v22 =>
      (zld h15 v22 0 3).bind fun v23 =>
      zb2 (zif (zis h15 a0 8) (f_X8_addSailing a0 v17 v19 v21 v23 h15)) fun v24 h25 =>
      (zgI h25 a0 8 8).bind fun v26 =>
      (zpV h25 a0 8 8 (.int (v26 + 1))).bind fun h27 =>
      r22 a0 a1 (a2 + 1) h27
    else
      (zif (zis h15 a0 8) (f_X8_takeBack a0 h15)).bind fun h28 =>
      some (v14, h28)
noncomputable def f_X8_sailings_22 : Nat → Nat → Int32 → Int32 → zHp → Option (Int32 × zHp)
  | 0 => fun _ _ _ _ => none
  | n + 1 => fun a0 a1 a2 h => f_X8_sailings_22_body (f_X8_sailings_22 n) a0 a1 a2 h
noncomputable def f_X8_sailings (a0 : Nat) (h : zHp) : Option (Int32 × zHp) :=
  zb2 (zif (zis h a0 8) (f_X8_readAll a0 h)) fun v1 h2 =>
  if 0 ≤ v1 then
    (zif (zis h2 a0 8) (f_X8_lay a0 h2)).bind fun h3 =>
    (zpV h3 a0 8 8 (.int 0)).bind fun h4 =>
    f_X8_sailings_22 zN a0 v1 0 h4
  else
    some (v1, h2)
noncomputable def f_X8_cancel (a0 : Nat) (a1 : Int32) (h : zHp) : Option (Int32 × zHp) :=
  zb2 (zif (zis h a0 8) (f_X8_isSailing a0 a1 h)) fun v1 h2 =>
  if v1 = 0 then
    some ((-1), h2)
  else
    zb2 (zif (zis h2 a0 8) (f_X8_is a0 a1 0 h2)) fun v3 h4 =>
    if v3 = 0 then
      some ((-4), h4)
    else
      zb2 (zif (zis h4 a0 8) (f_X8_takenOf a0 a1 h4)) fun v5 h6 =>
      (zif (zis h6 a0 8) (f_X8_record a0 h6)).bind fun h7 =>
      (zif (zis h7 a0 8) (f_X8_cancelNow a0 a1 h7)).bind fun h8 =>
      some (v5, h8)
noncomputable def f_X8_member (a0 : Nat) (a1 : Int32) (a2 : Int32) (h : zHp) : Option (Int32 × zHp) :=
  zb2 (f_X8_isRole a1 h) fun v1 h2 =>
  if v1 = 0 then
    some ((-1), h2)
  else
    zb2 (f_X8_in a2 0 9999 h2) fun v3 h4 =>
    if v3 = 0 then
      some ((-2), h4)
    else
      (zgR h4 a0 8 0).bind fun v5 =>
      (zld h4 v5 0 2).bind fun v6 =>
      if v6 = 12 then
        some ((-3), h4)
      else
        (zif (zis h4 a0 8) (f_X8_record a0 h4)).bind fun h7 =>
        (zgR h7 a0 8 0).bind fun v8 =>
        (zld h7 v8 0 2).bind fun v9 =>
        (zgR h7 a0 8 0).bind fun v10 =>
        (zld h7 v10 0 2).bind fun v11 =>
        (zst h7 v10 0 2 (v11 + 1)).bind fun h12 =>
        (zif (zis h12 a0 8) (f_X8_note a0 v9 a1 a2 h12)).bind fun h13 =>
        (zgR h13 a0 8 0).bind fun v14 =>
        (zgR h13 a0 8 0).bind fun v15 =>
        (zld h13 v15 0 (1041 + a1)).bind fun v16 =>
        (zst h13 v14 0 ((1045 + (12 * a1)) + v16) v9).bind fun h17 =>
        (zgR h17 a0 8 0).bind fun v18 =>
        (zld h17 v18 0 (1041 + a1)).bind fun v19 =>
        (zst h17 v18 0 (1041 + a1) (v19 + 1)).bind fun h20 =>
        some (v9, h20)
noncomputable def f_X8_certify_81 (r34 : Nat → Int32 → Int32 → Int32 → Int32 → zHp → Option (Int32 × zHp)) (a0 : Nat) (a1 : Int32) (a2 : Int32) (a3 : Int32) (a4 : Int32) (h : zHp) : Option (Int32 × zHp) :=
  r34 a0 a1 a2 a3 (a4 + 1) h
noncomputable def f_X8_certify_34_body (r34 : Nat → Int32 → Int32 → Int32 → Int32 → zHp → Option (Int32 × zHp)) (a0 : Nat) (a1 : Int32) (a2 : Int32) (a3 : Int32) (a4 : Int32) (h : zHp) : Option (Int32 × zHp) :=
  (zgR h a0 8 0).bind fun v1 =>
  (zld h v1 0 1).bind fun v2 =>
  if v2 ≤ a4 then
    zb2 (zif (zis h a0 8) (f_X8_has a0 a1 a2 h)) fun v3 h4 =>
    (zif (zis h4 a0 8) (f_X8_record a0 h4)).bind fun h5 =>
    (zif (zis h5 a0 8) (f_X8_note a0 a1 a2 a3 h5)).bind fun h6 =>
    some (v3, h6)
  else
    zb2 (zif (zis h a0 8) (f_X8_is a0 a4 0 h)) fun v7 h8 =>
    if v7 = 0 then
      f_X8_certify_81 r34 a0 a1 a2 a3 a4 h8
    else
      zb2 (zif (zis h8 a0 8) (f_X8_placeOf a0 a4 a1 h8)) fun v9 h10 =>
      if v9 = (a2 + 1) then
        zb2 (zif (zis h10 a0 8) (f_X8_end a0 a4 h10)) fun v11 h12 =>
        if v11 ≤ a3 then
          f_X8_certify_81 r34 a0 a1 a2 a3 a4 h12
        else
          some ((-4), h12)
      else
        f_X8_certify_81 r34 a0 a1 a2 a3 a4 h10
noncomputable def f_X8_certify_34 : Nat → Nat → Int32 → Int32 → Int32 → Int32 → zHp → Option (Int32 × zHp)
  | 0 => fun _ _ _ _ _ _ => none
  | n + 1 => fun a0 a1 a2 a3 a4 h => f_X8_certify_34_body (f_X8_certify_34 n) a0 a1 a2 a3 a4 h
noncomputable def f_X8_certify (a0 : Nat) (a1 : Int32) (a2 : Int32) (a3 : Int32) (h : zHp) : Option (Int32 × zHp) :=
  zb2 (zif (zis h a0 8) (f_X8_isMember a0 a1 h)) fun v1 h2 =>
  if v1 = 0 then
    some ((-1), h2)
  else
    zb2 (f_X8_isRole a2 h2) fun v3 h4 =>
    if v3 = 0 then
      some ((-1), h4)
    else
      zb2 (f_X8_in a3 0 9999 h4) fun v5 h6 =>
      if v5 = 0 then
        some ((-2), h6)
      else
        f_X8_certify_34 zN a0 a1 a2 a3 0 h6
noncomputable def f_X8_rungOf_2_body (r2 : Nat → Int32 → Int32 → Int32 → zHp → Option (Int32 × zHp)) (a0 : Nat) (a1 : Int32) (a2 : Int32) (a3 : Int32) (h : zHp) : Option (Int32 × zHp) :=
  (zgR h a0 8 0).bind fun v1 =>
  (zld h v1 0 (1041 + a2)).bind fun v2 =>
  if v2 ≤ a3 then
    some ((-5), h)
  else
    (zgR h a0 8 0).bind fun v3 =>
    (zld h v3 0 ((1045 + (12 * a2)) + a3)).bind fun v4 =>
    if v4 = a1 then
      some (a3, h)
    else
      r2 a0 a1 a2 (a3 + 1) h
noncomputable def f_X8_rungOf_2 : Nat → Nat → Int32 → Int32 → Int32 → zHp → Option (Int32 × zHp)
  | 0 => fun _ _ _ _ _ => none
  | n + 1 => fun a0 a1 a2 a3 h => f_X8_rungOf_2_body (f_X8_rungOf_2 n) a0 a1 a2 a3 h
noncomputable def f_X8_rungOf (a0 : Nat) (a1 : Int32) (a2 : Int32) (h : zHp) : Option (Int32 × zHp) :=
  f_X8_rungOf_2 zN a0 a1 a2 0 h
noncomputable def f_X8_takeOff_16_body (r16 : Nat → Int32 → Int32 → zHp → Option (zHp)) (a0 : Nat) (a1 : Int32) (a3 : Int32) (h : zHp) : Option zHp :=
  (zgR h a0 8 0).bind fun v1 =>
  (zld h v1 0 (1041 + a1)).bind fun v2 =>
  if v2 ≤ a3 then
    some h
  else
    (zgR h a0 8 0).bind fun v3 =>
    (zgR h a0 8 0).bind fun v4 =>
    (zld h v4 0 (((1045 + (12 * a1)) + a3) + 1)).bind fun v5 =>
    (zst h v3 0 ((1045 + (12 * a1)) + a3) v5).bind fun h6 =>
    r16 a0 a1 (a3 + 1) h6
noncomputable def f_X8_takeOff_16 : Nat → Nat → Int32 → Int32 → zHp → Option (zHp)
  | 0 => fun _ _ _ _ => none
  | n + 1 => fun a0 a1 a3 h => f_X8_takeOff_16_body (f_X8_takeOff_16 n) a0 a1 a3 h
noncomputable def f_X8_takeOff (a0 : Nat) (a1 : Int32) (a2 : Int32) (h : zHp) : Option zHp :=
  (zgR h a0 8 0).bind fun v1 =>
  (zld h v1 0 (1041 + a1)).bind fun v2 =>
  (zst h v1 0 (1041 + a1) (v2 - 1)).bind fun h3 =>
  f_X8_takeOff_16 zN a0 a1 a2 h3
noncomputable def f_X8_climb_40 (a0 : Nat) (a1 : Int32) (a2 : Int32) (h : zHp) : Option (Int32 × zHp) :=
  (zgR h a0 8 0).bind fun v1 =>
  (zgR h a0 8 0).bind fun v2 =>
  (zld h v2 0 (1041 + a2)).bind fun v3 =>
  (zst h v1 0 ((1045 + (12 * a2)) + v3) a1).bind fun h4 =>
  (zgR h4 a0 8 0).bind fun v5 =>
  (zld h4 v5 0 (1041 + a2)).bind fun v6 =>
  (zst h4 v5 0 (1041 + a2) (v6 + 1)).bind fun h7 =>
  (zgR h7 a0 8 0).bind fun v8 =>
  (zld h7 v8 0 (1041 + a2)).bind fun v9 =>
  some (v9, h7)
noncomputable def f_X8_climb (a0 : Nat) (a1 : Int32) (a2 : Int32) (h : zHp) : Option (Int32 × zHp) :=
  zb2 (zif (zis h a0 8) (f_X8_isMember a0 a1 h)) fun v1 h2 =>
  if v1 = 0 then
    some ((-1), h2)
  else
    zb2 (f_X8_isRole a2 h2) fun v3 h4 =>
    if v3 = 0 then
      some ((-1), h4)
    else
      (zif (zis h4 a0 8) (f_X8_record a0 h4)).bind fun h5 =>
      zb2 (zif (zis h5 a0 8) (f_X8_rungOf a0 a1 a2 h5)) fun v6 h7 =>
      if v6 = (-5) then
        f_X8_climb_40 a0 a1 a2 h7
      else
        (zif (zis h7 a0 8) (f_X8_takeOff a0 a2 v6 h7)).bind fun h8 =>
        f_X8_climb_40 a0 a1 a2 h8
noncomputable def f_X8_leave (a0 : Nat) (a1 : Int32) (a2 : Int32) (h : zHp) : Option (Int32 × zHp) :=
  zb2 (zif (zis h a0 8) (f_X8_isMember a0 a1 h)) fun v1 h2 =>
  if v1 = 0 then
    some ((-1), h2)
  else
    zb2 (f_X8_isRole a2 h2) fun v3 h4 =>
    if v3 = 0 then
      some ((-1), h4)
    else
      zb2 (zif (zis h4 a0 8) (f_X8_rungOf a0 a1 a2 h4)) fun v5 h6 =>
      if v5 = (-5) then
        some ((-5), h6)
      else
        (zif (zis h6 a0 8) (f_X8_record a0 h6)).bind fun h7 =>
        (zif (zis h7 a0 8) (f_X8_takeOff a0 a2 v5 h7)).bind fun h8 =>
        (zgR h8 a0 8 0).bind fun v9 =>
        (zld h8 v9 0 (1041 + a2)).bind fun v10 =>
        some (v10, h8)
noncomputable def f_X8_sick (a0 : Nat) (a1 : Int32) (a2 : Int32) (h : zHp) : Option (Int32 × zHp) :=
  zb2 (zif (zis h a0 8) (f_X8_isMember a0 a1 h)) fun v1 h2 =>
  if v1 = 0 then
    some ((-1), h2)
  else
    zb2 (f_X8_in a2 1 400 h2) fun v3 h4 =>
    if v3 = 0 then
      some ((-2), h4)
    else
      (zif (zis h4 a0 8) (f_X8_record a0 h4)).bind fun h5 =>
      zb2 (zif (zis h5 a0 8) (f_X8_sickNow a0 a1 a2 h5)) fun v6 h7 =>
      some (v6, h7)
noncomputable def f_X8_well (a0 : Nat) (a1 : Int32) (h : zHp) : Option (Int32 × zHp) :=
  zb2 (zif (zis h a0 8) (f_X8_isMember a0 a1 h)) fun v1 h2 =>
  if v1 = 0 then
    some ((-1), h2)
  else
    zb2 (zif (zis h2 a0 8) (f_X8_isSick a0 a1 h2)) fun v3 h4 =>
    if v3 = 0 then
      some ((-5), h4)
    else
      zb2 (zif (zis h4 a0 8) (f_X8_has a0 a1 4 h4)) fun v5 h6 =>
      (zgR h6 a0 8 0).bind fun v7 =>
      (zld h6 v7 0 0).bind fun v8 =>
      (zif (zis h6 a0 8) (f_X8_record a0 h6)).bind fun h9 =>
      (zif (zis h9 a0 8) (f_X8_note a0 a1 4 0 h9)).bind fun h10 =>
      some ((v5 - v8), h10)
noncomputable def f_X8_isAsked_27 (h : zHp) : Option (Int32 × zHp) :=
  zbool 0 h
noncomputable def f_X8_isAsked (a0 : Nat) (a1 : Int32) (a2 : Int32) (a3 : Int32) (h : zHp) : Option (Int32 × zHp) :=
  zb2 (zif (zis h a0 8) (f_X8_isMember a0 a1 h)) fun v1 h2 =>
  if v1 = 0 then
    f_X8_isAsked_27 h2
  else
    zb2 (zif (zis h2 a0 8) (f_X8_isSailing a0 a2 h2)) fun v3 h4 =>
    if v3 = 0 then
      f_X8_isAsked_27 h4
    else
      zb2 (f_X8_isRole a3 h4) fun v5 h6 =>
      if v5 = 0 then
        f_X8_isAsked_27 h6
      else
        zbool 1 h6
noncomputable def f_X8_why (a0 : Nat) (a1 : Int32) (a2 : Int32) (a3 : Int32) (h : zHp) : Option (Int32 × zHp) :=
  zb2 (zif (zis h a0 8) (f_X8_isAsked a0 a1 a2 a3 h)) fun v1 h2 =>
  if v1 = 0 then
    some ((-1), h2)
  else
    zb2 (zif (zis h2 a0 8) (f_X8_reason a0 a1 a2 a3 h2)) fun v3 h4 =>
    some (v3, h4)
noncomputable def f_X8_give (a0 : Nat) (a1 : Int32) (a2 : Int32) (a3 : Int32) (h : zHp) : Option (Int32 × zHp) :=
  zb2 (zif (zis h a0 8) (f_X8_why a0 a1 a2 a3 h)) fun v1 h2 =>
  if v1 = 0 then
    (zif (zis h2 a0 8) (f_X8_record a0 h2)).bind fun h3 =>
    (zif (zis h3 a0 8) (f_X8_setPlace a0 a2 a1 (a3 + 1) h3)).bind fun h4 =>
    some (0, h4)
  else
    some (v1, h2)
noncomputable def f_X8_giveUp (a0 : Nat) (a1 : Int32) (a2 : Int32) (h : zHp) : Option (Int32 × zHp) :=
  zb2 (zif (zis h a0 8) (f_X8_isMember a0 a1 h)) fun v1 h2 =>
  if v1 = 0 then
    some ((-1), h2)
  else
    zb2 (zif (zis h2 a0 8) (f_X8_isSailing a0 a2 h2)) fun v3 h4 =>
    if v3 = 0 then
      some ((-1), h4)
    else
      zb2 (zif (zis h4 a0 8) (f_X8_is a0 a2 0 h4)) fun v5 h6 =>
      if v5 = 0 then
        some ((-4), h6)
      else
        zb2 (zif (zis h6 a0 8) (f_X8_placeOf a0 a2 a1 h6)) fun v7 h8 =>
        if v7 = 0 then
          some ((-5), h8)
        else
          (zif (zis h8 a0 8) (f_X8_record a0 h8)).bind fun h9 =>
          (zif (zis h9 a0 8) (f_X8_setPlace a0 a2 a1 0 h9)).bind fun h10 =>
          some ((v7 - 1), h10)
noncomputable def f_X8_fill_63_body (r39 : Nat → Int32 → Int32 → zHp → Option (Int32 × zHp)) (r63 : Nat → Int32 → Int32 → Int32 → Int32 → zHp → Option (Int32 × zHp)) (a0 : Nat) (a1 : Int32) (a2 : Int32) (a3 : Int32) (a4 : Int32) (h : zHp) : Option (Int32 × zHp) :=
  if a3 ≤ a4 then
    r39 a0 a1 (a2 + 1) h
  else
    zb2 (zif (zis h a0 8) (f_X8_cover a0 a1 a2 h)) fun v1 h2 =>
    r63 a0 a1 a2 a3 (a4 + 1) h2
noncomputable def f_X8_fill_63 (r39 : Nat → Int32 → Int32 → zHp → Option (Int32 × zHp)) : Nat → Nat → Int32 → Int32 → Int32 → Int32 → zHp → Option (Int32 × zHp)
  | 0 => fun _ _ _ _ _ _ => none
  | n + 1 => fun a0 a1 a2 a3 a4 h => f_X8_fill_63_body r39 (f_X8_fill_63 r39 n) a0 a1 a2 a3 a4 h
noncomputable def f_X8_fill_39_body (r39 : Nat → Int32 → Int32 → zHp → Option (Int32 × zHp)) (a0 : Nat) (a1 : Int32) (a2 : Int32) (h : zHp) : Option (Int32 × zHp) :=
  if 4 ≤ a2 then
    zb2 (zif (zis h a0 8) (f_X8_freeOf a0 a1 h)) fun v1 h2 =>
    some (v1, h2)
  else
    zb2 (zif (zis h a0 8) (f_X8_of a0 a1 (4 + a2) h)) fun v3 h4 =>
    zb2 (zif (zis h4 a0 8) (f_X8_taken a0 a1 a2 h4)) fun v5 h6 =>
    f_X8_fill_63 r39 zN a0 a1 a2 (v3 - v5) 0 h6
noncomputable def f_X8_fill_39 : Nat → Nat → Int32 → Int32 → zHp → Option (Int32 × zHp)
  | 0 => fun _ _ _ _ => none
  | n + 1 => fun a0 a1 a2 h => f_X8_fill_39_body (f_X8_fill_39 n) a0 a1 a2 h
noncomputable def f_X8_fill (a0 : Nat) (a1 : Int32) (h : zHp) : Option (Int32 × zHp) :=
  zb2 (zif (zis h a0 8) (f_X8_isSailing a0 a1 h)) fun v1 h2 =>
  if v1 = 0 then
    some ((-1), h2)
  else
    zb2 (zif (zis h2 a0 8) (f_X8_is a0 a1 0 h2)) fun v3 h4 =>
    if v3 = 0 then
      some ((-4), h4)
    else
      zb2 (zif (zis h4 a0 8) (f_X8_freeOf a0 a1 h4)) fun v5 h6 =>
      if v5 = 0 then
        some ((-5), h6)
      else
        (zif (zis h6 a0 8) (f_X8_record a0 h6)).bind fun h7 =>
        f_X8_fill_39 zN a0 a1 0 h7
noncomputable def f_X8_pass_37_body (r37 : Nat → Int32 → Int32 → zHp → Option (Int32 × zHp)) (a0 : Nat) (a1 : Int32) (a2 : Int32) (h : zHp) : Option (Int32 × zHp) :=
  if a1 ≤ a2 then
    (zgR h a0 8 0).bind fun v1 =>
    (zld h v1 0 0).bind fun v2 =>
    some (v2, h)
  else
    (zif (zis h a0 8) (f_X8_passHour a0 h)).bind fun h3 =>
    r37 a0 a1 (a2 + 1) h3
noncomputable def f_X8_pass_37 : Nat → Nat → Int32 → Int32 → zHp → Option (Int32 × zHp)
  | 0 => fun _ _ _ _ => none
  | n + 1 => fun a0 a1 a2 h => f_X8_pass_37_body (f_X8_pass_37 n) a0 a1 a2 h
noncomputable def f_X8_pass (a0 : Nat) (a1 : Int32) (h : zHp) : Option (Int32 × zHp) :=
  zb2 (f_X8_in a1 1 200 h) fun v1 h2 =>
  if v1 = 0 then
    some ((-2), h2)
  else
    (zgR h2 a0 8 0).bind fun v3 =>
    (zld h2 v3 0 0).bind fun v4 =>
    if (v4 + a1) ≤ 1000 then
      (zif (zis h2 a0 8) (f_X8_record a0 h2)).bind fun h5 =>
      f_X8_pass_37 zN a0 a1 0 h5
    else
      some ((-3), h2)
noncomputable def f_X8_most (a0 : Int32) (h : zHp) : Option (Int32 × zHp) :=
  if a0 = 0 then
    some (20, h)
  else
    if a0 = 1 then
      some (12, h)
    else
      if a0 = 2 then
        some (140, h)
      else
        if a0 = 3 then
          some (1, h)
        else
          some (100, h)
noncomputable def f_X8_set_86 (a0 : Nat) (a1 : Int32) (a2 : Int32) (a3 : Int32) (a4 : Int32) (h : zHp) : Option (Int32 × zHp) :=
  (zgR h a0 8 0).bind fun v1 =>
  (zst h v1 0 (4 + a1) a3).bind fun h2 =>
  if a4 = 0 then
    some ((-4), h2)
  else
    (zif (zis h2 a0 8) (f_X8_record a0 h2)).bind fun h3 =>
    (zgR h3 a0 8 0).bind fun v4 =>
    (zst h3 v4 0 (4 + a1) a2).bind fun h5 =>
    some (a3, h5)
noncomputable def f_X8_set_56_body (r56 : Nat → Int32 → Int32 → Int32 → Int32 → Int32 → zHp → Option (Int32 × zHp)) (a0 : Nat) (a1 : Int32) (a2 : Int32) (a3 : Int32) (a4 : Int32) (a5 : Int32) (h : zHp) : Option (Int32 × zHp) :=
  (zgR h a0 8 0).bind fun v1 =>
  (zld h v1 0 2).bind fun v2 =>
  if v2 ≤ a5 then
    f_X8_set_86 a0 a1 a2 a3 a4 h
  else
    if a4 = 0 then
      f_X8_set_86 a0 a1 a2 a3 a4 h
    else
      zb2 (zif (zis h a0 8) (f_X8_restsHold a0 a5 h)) fun v3 h4 =>
      r56 a0 a1 a2 a3 v3 (a5 + 1) h4
noncomputable def f_X8_set_56 : Nat → Nat → Int32 → Int32 → Int32 → Int32 → Int32 → zHp → Option (Int32 × zHp)
  | 0 => fun _ _ _ _ _ _ _ => none
  | n + 1 => fun a0 a1 a2 a3 a4 a5 h => f_X8_set_56_body (f_X8_set_56 n) a0 a1 a2 a3 a4 a5 h
noncomputable def f_X8_set (a0 : Nat) (a1 : Int32) (a2 : Int32) (h : zHp) : Option (Int32 × zHp) :=
  zb2 (f_X8_in a1 0 4 h) fun v1 h2 =>
  if v1 = 0 then
    some ((-2), h2)
  else
    zb2 (f_X8_most a1 h2) fun v3 h4 =>
    zb2 (f_X8_in a2 0 v3 h4) fun v5 h6 =>
    if v5 = 0 then
      some ((-2), h6)
    else
      (zgR h6 a0 8 0).bind fun v7 =>
      (zld h6 v7 0 (4 + a1)).bind fun v8 =>
      if v8 = a2 then
        some ((-5), h6)
      else
        (zgR h6 a0 8 0).bind fun v9 =>
        (zst h6 v9 0 (4 + a1) a2).bind fun h10 =>
        f_X8_set_56 zN a0 a1 a2 v8 1 0 h10
noncomputable def f_X8_type (a0 : Nat) (a1 : Int32) (h : zHp) : Option (Int32 × zHp) :=
  (zgI h a0 8 10).bind fun v1 =>
  if v1 = 60 then
    some ((-3), h)
  else
    (zgR h a0 8 4).bind fun v2 =>
    (zgI h a0 8 10).bind fun v3 =>
    (zst h v2 0 v3 a1).bind fun h4 =>
    (zgI h4 a0 8 10).bind fun v5 =>
    (zpV h4 a0 8 10 (.int (v5 + 1))).bind fun h6 =>
    (zgI h6 a0 8 10).bind fun v7 =>
    some (v7, h6)
noncomputable def f_X8_clearText (a0 : Nat) (h : zHp) : Option (Int32 × zHp) :=
  (zgI h a0 8 10).bind fun v1 =>
  (zpV h a0 8 10 (.int 0)).bind fun h2 =>
  some (v1, h2)
noncomputable def f_X8_fault (a0 : Nat) (h : zHp) : Option (Int32 × zHp) :=
  zb2 (zif (zis h a0 8) (f_X8_readAll a0 h)) fun v1 h2 =>
  if 0 ≤ v1 then
    some ((-5), h2)
  else
    some (((-100) - v1), h2)
noncomputable def f_X8_undo_22_body (r22 : Nat → Int32 → zHp → Option (Int32 × zHp)) (a0 : Nat) (a1 : Int32) (h : zHp) : Option (Int32 × zHp) :=
  if 1093 ≤ a1 then
    (zgI h a0 8 9).bind fun v1 =>
    some (v1, h)
  else
    (zgR h a0 8 0).bind fun v2 =>
    (zgR h a0 8 3).bind fun v3 =>
    (zgI h a0 8 9).bind fun v4 =>
    (zld h v3 0 ((1093 * v4) + a1)).bind fun v5 =>
    (zst h v2 0 a1 v5).bind fun h6 =>
    r22 a0 (a1 + 1) h6
noncomputable def f_X8_undo_22 : Nat → Nat → Int32 → zHp → Option (Int32 × zHp)
  | 0 => fun _ _ _ => none
  | n + 1 => fun a0 a1 h => f_X8_undo_22_body (f_X8_undo_22 n) a0 a1 h
noncomputable def f_X8_undo (a0 : Nat) (h : zHp) : Option (Int32 × zHp) :=
  (zgI h a0 8 9).bind fun v1 =>
  if v1 = 0 then
    some ((-5), h)
  else
    (zgI h a0 8 9).bind fun v2 =>
    (zpV h a0 8 9 (.int (v2 - 1))).bind fun h3 =>
    f_X8_undo_22 zN a0 0 h3
noncomputable def f_X8_keep_2_body (r2 : Nat → Int32 → zHp → Option (Int32 × zHp)) (a0 : Nat) (a1 : Int32) (h : zHp) : Option (Int32 × zHp) :=
  if 1093 ≤ a1 then
    (zpV h a0 8 11 (.int 1)).bind fun h1 =>
    (zgR h1 a0 8 0).bind fun v2 =>
    (zld h1 v2 0 0).bind fun v3 =>
    some (v3, h1)
  else
    (zgR h a0 8 1).bind fun v4 =>
    (zgR h a0 8 0).bind fun v5 =>
    (zld h v5 0 a1).bind fun v6 =>
    (zst h v4 0 a1 v6).bind fun h7 =>
    r2 a0 (a1 + 1) h7
noncomputable def f_X8_keep_2 : Nat → Nat → Int32 → zHp → Option (Int32 × zHp)
  | 0 => fun _ _ _ => none
  | n + 1 => fun a0 a1 h => f_X8_keep_2_body (f_X8_keep_2 n) a0 a1 h
noncomputable def f_X8_keep (a0 : Nat) (h : zHp) : Option (Int32 × zHp) :=
  f_X8_keep_2 zN a0 0 h
noncomputable def f_X8_restore_16_body (r16 : Nat → Int32 → zHp → Option (Int32 × zHp)) (a0 : Nat) (a1 : Int32) (h : zHp) : Option (Int32 × zHp) :=
  if 1093 ≤ a1 then
    (zgR h a0 8 0).bind fun v1 =>
    (zld h v1 0 0).bind fun v2 =>
    some (v2, h)
  else
    (zgR h a0 8 0).bind fun v3 =>
    (zgR h a0 8 1).bind fun v4 =>
    (zld h v4 0 a1).bind fun v5 =>
    (zst h v3 0 a1 v5).bind fun h6 =>
    r16 a0 (a1 + 1) h6
noncomputable def f_X8_restore_16 : Nat → Nat → Int32 → zHp → Option (Int32 × zHp)
  | 0 => fun _ _ _ => none
  | n + 1 => fun a0 a1 h => f_X8_restore_16_body (f_X8_restore_16 n) a0 a1 h
noncomputable def f_X8_restore (a0 : Nat) (h : zHp) : Option (Int32 × zHp) :=
  (zgI h a0 8 11).bind fun v1 =>
  if v1 = 0 then
    some ((-5), h)
  else
    (zif (zis h a0 8) (f_X8_record a0 h)).bind fun h2 =>
    f_X8_restore_16 zN a0 0 h2
noncomputable def f_X8_sailingOf (a0 : Nat) (a1 : Int32) (a2 : Int32) (h : zHp) : Option (Int32 × zHp) :=
  zb2 (zif (zis h a0 8) (f_X8_isSailing a0 a1 h)) fun v1 h2 =>
  if v1 = 0 then
    some ((-1), h2)
  else
    if a2 = 0 then
      zb2 (zif (zis h2 a0 8) (f_X8_of a0 a1 0 h2)) fun v3 h4 =>
      some (v3, h4)
    else if a2 = 1 then
      zb2 (zif (zis h2 a0 8) (f_X8_of a0 a1 1 h2)) fun v5 h6 =>
      some (v5, h6)
    else if a2 = 2 then
      zb2 (zif (zis h2 a0 8) (f_X8_of a0 a1 2 h2)) fun v7 h8 =>
      some (v7, h8)
    else if a2 = 3 then
      zb2 (zif (zis h2 a0 8) (f_X8_end a0 a1 h2)) fun v9 h10 =>
      some (v9, h10)
    else if a2 = 4 then
      zb2 (zif (zis h2 a0 8) (f_X8_of a0 a1 4 h2)) fun v11 h12 =>
      zb2 (zif (zis h12 a0 8) (f_X8_of a0 a1 5 h12)) fun v13 h14 =>
      zb2 (zif (zis h14 a0 8) (f_X8_of a0 a1 6 h14)) fun v15 h16 =>
      zb2 (zif (zis h16 a0 8) (f_X8_of a0 a1 7 h16)) fun v17 h18 =>
      some (((((1000 * v11) + (100 * v13)) + (10 * v15)) + v17), h18)
    else if a2 = 5 then
      zb2 (zif (zis h2 a0 8) (f_X8_needed a0 a1 h2)) fun v19 h20 =>
      some (v19, h20)
    else if a2 = 6 then
      zb2 (zif (zis h2 a0 8) (f_X8_freeOf a0 a1 h2)) fun v21 h22 =>
      some (v21, h22)
    else 
      some ((-2), h2)
noncomputable def f_X8_crew_101 (r32 : Nat → Int32 → Int32 → Int32 → Int32 → zHp → Option (Int32 × zHp)) (a0 : Nat) (a1 : Int32) (a3 : Int32) (a4 : Int32) (a5 : Int32) (h : zHp) : Option (Int32 × zHp) :=
  r32 a0 a1 a3 a4 (a5 + 1) h
noncomputable def f_X8_crew_32_body (r32 : Nat → Int32 → Int32 → Int32 → Int32 → zHp → Option (Int32 × zHp)) (a0 : Nat) (a1 : Int32) (a3 : Int32) (a4 : Int32) (a5 : Int32) (h : zHp) : Option (Int32 × zHp) :=
  if 48 ≤ a5 then
    some ((-5), h)
  else
    (zrem a5 12).bind fun v1 =>
    zb2 (zif (zis h a0 8) (f_X8_placeOf a0 a1 v1 h)) fun v2 h3 =>
    (zdiv a5 12).bind fun v4 =>
    if v2 = (v4 + 1) then
      if a4 = 0 then
        if a3 = 0 then
          some (v1, h3)
        else
          if a3 = 1 then
            (zdiv a5 12).bind fun v7 =>
            some (v7, h3)
          else
            zb2 (zif (zis h3 a0 8) (f_X8_begins a0 a1 v1 h3)) fun v5 h6 =>
            some (v5, h6)
      else
        f_X8_crew_101 r32 a0 a1 a3 (a4 + (-1)) a5 h3
    else
      f_X8_crew_101 r32 a0 a1 a3 a4 a5 h3
noncomputable def f_X8_crew_32 : Nat → Nat → Int32 → Int32 → Int32 → Int32 → zHp → Option (Int32 × zHp)
  | 0 => fun _ _ _ _ _ _ => none
  | n + 1 => fun a0 a1 a3 a4 a5 h => f_X8_crew_32_body (f_X8_crew_32 n) a0 a1 a3 a4 a5 h
noncomputable def f_X8_crew (a0 : Nat) (a1 : Int32) (a2 : Int32) (a3 : Int32) (h : zHp) : Option (Int32 × zHp) :=
  zb2 (zif (zis h a0 8) (f_X8_isSailing a0 a1 h)) fun v1 h2 =>
  if v1 = 0 then
    some ((-1), h2)
  else
    if a2 < 0 then
      some ((-2), h2)
    else
      zb2 (f_X8_in a3 0 2 h2) fun v3 h4 =>
      if v3 = 0 then
        some ((-2), h4)
      else
        f_X8_crew_32 zN a0 a1 a3 a2 0 h4
noncomputable def f_X8_placesThat_42 (r5 : Nat → Int32 → Int32 → Int32 → Int32 → zHp → Option (Int32 × zHp)) (a0 : Nat) (a1 : Int32) (a2 : Int32) (a4 : Int32) (s0 : Int32) (s1 : Int32) (h : zHp) : Option (Int32 × zHp) :=
  r5 a0 a1 a2 (s1 + s0) (a4 + 1) h
noncomputable def f_X8_placesThat_41 (r5 : Nat → Int32 → Int32 → Int32 → Int32 → zHp → Option (Int32 × zHp)) (a0 : Nat) (a1 : Int32) (a2 : Int32) (a4 : Int32) (s0 : Int32) (h : zHp) : Option (Int32 × zHp) :=
  f_X8_placesThat_42 r5 a0 a1 a2 a4 0 s0 h
noncomputable def f_X8_placesThat_5_body (r5 : Nat → Int32 → Int32 → Int32 → Int32 → zHp → Option (Int32 × zHp)) (a0 : Nat) (a1 : Int32) (a2 : Int32) (a3 : Int32) (a4 : Int32) (h : zHp) : Option (Int32 × zHp) :=
  (zgR h a0 8 0).bind fun v1 =>
  (zld h v1 0 1).bind fun v2 =>
  if v2 ≤ a4 then
    some (a3, h)
  else
    zb2 (zif (zis h a0 8) (f_X8_placeOf a0 a4 a1 h)) fun v3 h4 =>
    if v3 ≤ 0 then
      f_X8_placesThat_41 r5 a0 a1 a2 a4 a3 h4
    else
      zb2 (zif (zis h4 a0 8) (f_X8_is a0 a4 a2 h4)) fun v5 h6 =>
      if v5 = 0 then
        f_X8_placesThat_41 r5 a0 a1 a2 a4 a3 h6
      else
        f_X8_placesThat_42 r5 a0 a1 a2 a4 1 a3 h6
noncomputable def f_X8_placesThat_5 : Nat → Nat → Int32 → Int32 → Int32 → Int32 → zHp → Option (Int32 × zHp)
  | 0 => fun _ _ _ _ _ _ => none
  | n + 1 => fun a0 a1 a2 a3 a4 h => f_X8_placesThat_5_body (f_X8_placesThat_5 n) a0 a1 a2 a3 a4 h
noncomputable def f_X8_placesThat (a0 : Nat) (a1 : Int32) (a2 : Int32) (h : zHp) : Option (Int32 × zHp) :=
  f_X8_placesThat_5 zN a0 a1 a2 0 0 h
noncomputable def f_X8_nextOf_56 (r5 : Nat → Int32 → Int32 → Int32 → zHp → Option (Int32 × zHp)) (a0 : Nat) (a1 : Int32) (a2 : Int32) (a3 : Int32) (h : zHp) : Option (Int32 × zHp) :=
  r5 a0 a1 a2 (a3 + 1) h
noncomputable def f_X8_nextOf_54 (r5 : Nat → Int32 → Int32 → Int32 → zHp → Option (Int32 × zHp)) (a0 : Nat) (a1 : Int32) (a3 : Int32) (h : zHp) : Option (Int32 × zHp) :=
  f_X8_nextOf_56 r5 a0 a1 a3 a3 h
noncomputable def f_X8_nextOf_5_body (r5 : Nat → Int32 → Int32 → Int32 → zHp → Option (Int32 × zHp)) (a0 : Nat) (a1 : Int32) (a2 : Int32) (a3 : Int32) (h : zHp) : Option (Int32 × zHp) :=
  (zgR h a0 8 0).bind fun v1 =>
  (zld h v1 0 1).bind fun v2 =>
  if v2 ≤ a3 then
    some (a2, h)
  else
    zb2 (zif (zis h a0 8) (f_X8_placeOf a0 a3 a1 h)) fun v3 h4 =>
    if v3 ≤ 0 then
      f_X8_nextOf_56 r5 a0 a1 a2 a3 h4
    else
      zb2 (zif (zis h4 a0 8) (f_X8_is a0 a3 0 h4)) fun v5 h6 =>
      if v5 = 0 then
        f_X8_nextOf_56 r5 a0 a1 a2 a3 h6
      else
        if a2 = (-5) then
          f_X8_nextOf_54 r5 a0 a1 a3 h6
        else
          zb2 (zif (zis h6 a0 8) (f_X8_of a0 a3 2 h6)) fun v7 h8 =>
          zb2 (zif (zis h8 a0 8) (f_X8_of a0 a2 2 h8)) fun v9 h10 =>
          if v9 ≤ v7 then
            f_X8_nextOf_56 r5 a0 a1 a2 a3 h10
          else
            f_X8_nextOf_54 r5 a0 a1 a3 h10
noncomputable def f_X8_nextOf_5 : Nat → Nat → Int32 → Int32 → Int32 → zHp → Option (Int32 × zHp)
  | 0 => fun _ _ _ _ _ => none
  | n + 1 => fun a0 a1 a2 a3 h => f_X8_nextOf_5_body (f_X8_nextOf_5 n) a0 a1 a2 a3 h
noncomputable def f_X8_nextOf (a0 : Nat) (a1 : Int32) (h : zHp) : Option (Int32 × zHp) :=
  f_X8_nextOf_5 zN a0 a1 (-5) 0 h
noncomputable def f_X8_memberOf (a0 : Nat) (a1 : Int32) (a2 : Int32) (h : zHp) : Option (Int32 × zHp) :=
  zb2 (zif (zis h a0 8) (f_X8_isMember a0 a1 h)) fun v1 h2 =>
  if v1 = 0 then
    some ((-1), h2)
  else
    if a2 = 0 then
      zb2 (zif (zis h2 a0 8) (f_X8_has a0 a1 a2 h2)) fun v3 h4 =>
      some (v3, h4)
    else if a2 = 1 then
      zb2 (zif (zis h2 a0 8) (f_X8_has a0 a1 a2 h2)) fun v5 h6 =>
      some (v5, h6)
    else if a2 = 2 then
      zb2 (zif (zis h2 a0 8) (f_X8_has a0 a1 a2 h2)) fun v7 h8 =>
      some (v7, h8)
    else if a2 = 3 then
      zb2 (zif (zis h2 a0 8) (f_X8_has a0 a1 a2 h2)) fun v9 h10 =>
      some (v9, h10)
    else if a2 = 4 then
      zb2 (zif (zis h2 a0 8) (f_X8_isSick a0 a1 h2)) fun v11 h12 =>
      if v11 = 0 then
        some ((-5), h12)
      else
        zb2 (zif (zis h12 a0 8) (f_X8_has a0 a1 4 h12)) fun v13 h14 =>
        some (v13, h14)
    else if a2 = 5 then
      zb2 (zif (zis h2 a0 8) (f_X8_placesThat a0 a1 0 h2)) fun v15 h16 =>
      some (v15, h16)
    else if a2 = 6 then
      zb2 (zif (zis h2 a0 8) (f_X8_placesThat a0 a1 1 h2)) fun v17 h18 =>
      some (v17, h18)
    else if a2 = 7 then
      zb2 (zif (zis h2 a0 8) (f_X8_dutyHours a0 a1 h2)) fun v19 h20 =>
      some (v19, h20)
    else if a2 = 8 then
      zb2 (zif (zis h2 a0 8) (f_X8_has a0 a1 5 h2)) fun v21 h22 =>
      some (v21, h22)
    else if a2 = 9 then
      zb2 (zif (zis h2 a0 8) (f_X8_nextOf a0 a1 h2)) fun v23 h24 =>
      some (v23, h24)
    else 
      some ((-2), h2)
noncomputable def f_X8_ladder (a0 : Nat) (a1 : Int32) (a2 : Int32) (h : zHp) : Option (Int32 × zHp) :=
  zb2 (f_X8_isRole a1 h) fun v1 h2 =>
  if v1 = 0 then
    some ((-1), h2)
  else
    if 0 ≤ a2 then
      (zgR h2 a0 8 0).bind fun v3 =>
      (zld h2 v3 0 (1041 + a1)).bind fun v4 =>
      if v4 ≤ a2 then
        some ((-5), h2)
      else
        (zgR h2 a0 8 0).bind fun v5 =>
        (zld h2 v5 0 ((1045 + (12 * a1)) + a2)).bind fun v6 =>
        some (v6, h2)
    else
      some ((-2), h2)
noncomputable def f_X8_rest (a0 : Nat) (a1 : Int32) (a2 : Int32) (a3 : Int32) (h : zHp) : Option (Int32 × zHp) :=
  zb2 (zif (zis h a0 8) (f_X8_isMember a0 a1 h)) fun v1 h2 =>
  if v1 = 0 then
    some ((-1), h2)
  else
    zb2 (f_X8_in a2 0 1000 h2) fun v3 h4 =>
    if v3 = 0 then
      some ((-2), h4)
    else
      zb2 (f_X8_in a3 1 168 h4) fun v5 h6 =>
      if v5 = 0 then
        some ((-2), h6)
      else
        (zif (zis h6 a0 8) (f_X8_countDuties a0 a1 h6)).bind fun h7 =>
        zb2 (zif (zis h7 a0 8) (f_X8_without a0 a2 a3 h7)) fun v8 h9 =>
        some (v8, h9)
noncomputable def f_X8_leastRest_118 (r48 : Nat → Int32 → Int32 → Int32 → Int32 → Int32 → zHp → Option (Int32 × zHp)) (a0 : Nat) (a2 : Int32) (a3 : Int32) (a4 : Int32) (a6 : Int32) (s0 : Int32) (h : zHp) : Option (Int32 × zHp) :=
  r48 a0 a2 a3 a4 s0 (a6 + 1) h
noncomputable def f_X8_leastRest_102 (r48 : Nat → Int32 → Int32 → Int32 → Int32 → Int32 → zHp → Option (Int32 × zHp)) (a0 : Nat) (a2 : Int32) (a3 : Int32) (a5 : Int32) (a6 : Int32) (a8 : Int32) (s0 : Int32) (h : zHp) : Option (Int32 × zHp) :=
  if a5 ≤ a8 then
    f_X8_leastRest_118 r48 a0 a2 a3 s0 a6 a5 h
  else
    f_X8_leastRest_118 r48 a0 a2 a3 s0 a6 a8 h
noncomputable def f_X8_leastRest_87 (r48 : Nat → Int32 → Int32 → Int32 → Int32 → Int32 → zHp → Option (Int32 × zHp)) (a0 : Nat) (a2 : Int32) (a4 : Int32) (a5 : Int32) (a6 : Int32) (a7 : Int32) (a8 : Int32) (s0 : Int32) (h : zHp) : Option (Int32 × zHp) :=
  if a4 ≤ a7 then
    f_X8_leastRest_102 r48 a0 a2 s0 a5 a6 a8 a4 h
  else
    f_X8_leastRest_102 r48 a0 a2 s0 a5 a6 a8 a7 h
noncomputable def f_X8_leastRest_48_body (r48 : Nat → Int32 → Int32 → Int32 → Int32 → Int32 → zHp → Option (Int32 × zHp)) (a0 : Nat) (a2 : Int32) (a3 : Int32) (a4 : Int32) (a5 : Int32) (a6 : Int32) (h : zHp) : Option (Int32 × zHp) :=
  if 1000 < a6 then
    if a2 = 0 then
      some (a4, h)
    else
      if a2 = 1 then
        some (a3, h)
      else
        some (a5, h)
  else
    zb2 (zif (zis h a0 8) (f_X8_without a0 a6 24 h)) fun v1 h2 =>
    zb2 (zif (zis h2 a0 8) (f_X8_longRest a0 a6 h2)) fun v3 h4 =>
    if a4 ≤ v1 then
      f_X8_leastRest_87 r48 a0 a2 a4 a5 a6 v1 v3 a3 h4
    else
      f_X8_leastRest_87 r48 a0 a2 a4 a5 a6 v1 v3 a6 h4
noncomputable def f_X8_leastRest_48 : Nat → Nat → Int32 → Int32 → Int32 → Int32 → Int32 → zHp → Option (Int32 × zHp)
  | 0 => fun _ _ _ _ _ _ _ => none
  | n + 1 => fun a0 a2 a3 a4 a5 a6 h => f_X8_leastRest_48_body (f_X8_leastRest_48 n) a0 a2 a3 a4 a5 a6 h
noncomputable def f_X8_leastRest (a0 : Nat) (a1 : Int32) (a2 : Int32) (h : zHp) : Option (Int32 × zHp) :=
  zb2 (zif (zis h a0 8) (f_X8_isMember a0 a1 h)) fun v1 h2 =>
  if v1 = 0 then
    some ((-1), h2)
  else
    zb2 (f_X8_in a2 0 2 h2) fun v3 h4 =>
    if v3 = 0 then
      some ((-2), h4)
    else
      (zif (zis h4 a0 8) (f_X8_countDuties a0 a1 h4)).bind fun h5 =>
      zb2 (zif (zis h5 a0 8) (f_X8_without a0 0 24 h5)) fun v6 h7 =>
      zb2 (zif (zis h7 a0 8) (f_X8_longRest a0 0 h7)) fun v8 h9 =>
      f_X8_leastRest_48 zN a0 a2 0 v6 v8 1 h9
noncomputable def f_X8_over (a0 : Nat) (a1 : Int32) (a2 : Int32) (h : zHp) : Option (Int32 × zHp) :=
  (zif (zis h a0 8) (f_X8_countDuties a0 a1 h)).bind fun h1 =>
  zb2 (zif (zis h1 a0 8) (f_X8_without a0 (168 * a2) 168 h1)) fun v2 h3 =>
  (zgR h3 a0 8 0).bind fun v4 =>
  (zld h3 v4 0 8).bind fun v5 =>
  if ((168 - v2) - v5) ≤ 0 then
    some (0, h3)
  else
    some (((168 - v2) - v5), h3)
noncomputable def f_X8_overtime_26 (h : zHp) : Option (Int32 × zHp) :=
  some ((-1), h)
noncomputable def f_X8_overtime (a0 : Nat) (a1 : Int32) (a2 : Int32) (h : zHp) : Option (Int32 × zHp) :=
  zb2 (zif (zis h a0 8) (f_X8_isMember a0 a1 h)) fun v1 h2 =>
  if v1 = 0 then
    f_X8_overtime_26 h2
  else
    zb2 (f_X8_in a2 0 5 h2) fun v3 h4 =>
    if v3 = 0 then
      f_X8_overtime_26 h4
    else
      zb2 (zif (zis h4 a0 8) (f_X8_over a0 a1 a2 h4)) fun v5 h6 =>
      some (v5, h6)
noncomputable def f_X8_sailingsThat_29 (r4 : Nat → Int32 → Int32 → Int32 → zHp → Option (Int32 × zHp)) (a0 : Nat) (a1 : Int32) (a3 : Int32) (s0 : Int32) (s1 : Int32) (h : zHp) : Option (Int32 × zHp) :=
  r4 a0 a1 (s1 + s0) (a3 + 1) h
noncomputable def f_X8_sailingsThat_4_body (r4 : Nat → Int32 → Int32 → Int32 → zHp → Option (Int32 × zHp)) (a0 : Nat) (a1 : Int32) (a2 : Int32) (a3 : Int32) (h : zHp) : Option (Int32 × zHp) :=
  (zgR h a0 8 0).bind fun v1 =>
  (zld h v1 0 1).bind fun v2 =>
  if v2 ≤ a3 then
    some (a2, h)
  else
    zb2 (zif (zis h a0 8) (f_X8_is a0 a3 a1 h)) fun v3 h4 =>
    if v3 = 0 then
      f_X8_sailingsThat_29 r4 a0 a1 a3 0 a2 h4
    else
      f_X8_sailingsThat_29 r4 a0 a1 a3 1 a2 h4
noncomputable def f_X8_sailingsThat_4 : Nat → Nat → Int32 → Int32 → Int32 → zHp → Option (Int32 × zHp)
  | 0 => fun _ _ _ _ _ => none
  | n + 1 => fun a0 a1 a2 a3 h => f_X8_sailingsThat_4_body (f_X8_sailingsThat_4 n) a0 a1 a2 a3 h
noncomputable def f_X8_sailingsThat (a0 : Nat) (a1 : Int32) (h : zHp) : Option (Int32 × zHp) :=
  f_X8_sailingsThat_4 zN a0 a1 0 0 h
noncomputable def f_X8_count_181 (r123 : Nat → Int32 → Int32 → Int32 → Int32 → Int32 → Int32 → zHp → Option (Int32 × zHp)) (a0 : Nat) (a1 : Int32) (a2 : Int32) (a3 : Int32) (a4 : Int32) (a6 : Int32) (s0 : Int32) (s1 : Int32) (h : zHp) : Option (Int32 × zHp) :=
  r123 a0 a1 a2 a3 a4 (s1 + s0) (a6 + 1) h
noncomputable def f_X8_count_156 (r123 : Nat → Int32 → Int32 → Int32 → Int32 → Int32 → Int32 → zHp → Option (Int32 × zHp)) (a0 : Nat) (a1 : Int32) (a2 : Int32) (a3 : Int32) (a5 : Int32) (a6 : Int32) (s0 : Int32) (s1 : Int32) (h : zHp) : Option (Int32 × zHp) :=
  zb2 (zif (zis h a0 8) (f_X8_is a0 a6 0 h)) fun v1 h2 =>
  if v1 = 0 then
    f_X8_count_181 r123 a0 a1 a2 a3 (s1 + s0) a6 0 a5 h2
  else
    zb2 (zif (zis h2 a0 8) (f_X8_takenOf a0 a6 h2)) fun v3 h4 =>
    f_X8_count_181 r123 a0 a1 a2 a3 (s1 + s0) a6 v3 a5 h4
noncomputable def f_X8_count_123_body (r123 : Nat → Int32 → Int32 → Int32 → Int32 → Int32 → Int32 → zHp → Option (Int32 × zHp)) (a0 : Nat) (a1 : Int32) (a2 : Int32) (a3 : Int32) (a4 : Int32) (a5 : Int32) (a6 : Int32) (h : zHp) : Option (Int32 × zHp) :=
  (zgR h a0 8 0).bind fun v1 =>
  (zld h v1 0 1).bind fun v2 =>
  if v2 ≤ a6 then
    if a1 = 0 then
      (zgR h a0 8 0).bind fun v3 =>
      (zld h v3 0 0).bind fun v4 =>
      some (v4, h)
    else if a1 = 1 then
      (zgR h a0 8 0).bind fun v5 =>
      (zld h v5 0 1).bind fun v6 =>
      some (v6, h)
    else if a1 = 2 then
      some ((-2), h)
    else if a1 = 3 then
      some ((-2), h)
    else if a1 = 4 then
      some ((-2), h)
    else if a1 = 5 then
      (zgR h a0 8 0).bind fun v7 =>
      (zld h v7 0 2).bind fun v8 =>
      some (v8, h)
    else if a1 = 6 then
      some (a2, h)
    else if a1 = 7 then
      some (a4, h)
    else if a1 = 8 then
      some (a5, h)
    else if a1 = 9 then
      (zgR h a0 8 0).bind fun v9 =>
      (zld h v9 0 3).bind fun v10 =>
      some (v10, h)
    else if a1 = 10 then
      some (a3, h)
    else if a1 = 11 then
      (zgI h a0 8 9).bind fun v11 =>
      some (v11, h)
    else if a1 = 12 then
      (zgI h a0 8 10).bind fun v12 =>
      some (v12, h)
    else 
      some ((-2), h)
  else
    zb2 (zif (zis h a0 8) (f_X8_is a0 a6 0 h)) fun v13 h14 =>
    if v13 = 0 then
      f_X8_count_156 r123 a0 a1 a2 a3 a5 a6 0 a4 h14
    else
      zb2 (zif (zis h14 a0 8) (f_X8_freeOf a0 a6 h14)) fun v15 h16 =>
      f_X8_count_156 r123 a0 a1 a2 a3 a5 a6 v15 a4 h16
noncomputable def f_X8_count_123 : Nat → Nat → Int32 → Int32 → Int32 → Int32 → Int32 → Int32 → zHp → Option (Int32 × zHp)
  | 0 => fun _ _ _ _ _ _ _ _ => none
  | n + 1 => fun a0 a1 a2 a3 a4 a5 a6 h => f_X8_count_123_body (f_X8_count_123 n) a0 a1 a2 a3 a4 a5 a6 h
noncomputable def f_X8_count_114 (r53 : Nat → Int32 → Int32 → Int32 → Int32 → Int32 → Int32 → zHp → Option (Int32 × zHp)) (a0 : Nat) (a1 : Int32) (a2 : Int32) (a3 : Int32) (a4 : Int32) (a5 : Int32) (a6 : Int32) (h : zHp) : Option (Int32 × zHp) :=
  r53 a0 a1 a2 a3 a4 a5 (a6 + 1) h
noncomputable def f_X8_count_84_body (r53 : Nat → Int32 → Int32 → Int32 → Int32 → Int32 → Int32 → zHp → Option (Int32 × zHp)) (r84 : Nat → Int32 → Int32 → Int32 → Int32 → Int32 → Int32 → Int32 → zHp → Option (Int32 × zHp)) (a0 : Nat) (a1 : Int32) (a2 : Int32) (a3 : Int32) (a4 : Int32) (a5 : Int32) (a6 : Int32) (a7 : Int32) (h : zHp) : Option (Int32 × zHp) :=
  if 6 ≤ a7 then
    f_X8_count_114 r53 a0 a1 a2 a3 a4 a5 a6 h
  else
    if a1 = 10 then
      zb2 (zif (zis h a0 8) (f_X8_over a0 a6 a7 h)) fun v1 h2 =>
      r84 a0 a1 a2 (a3 + v1) a4 a5 a6 (a7 + 1) h2
    else
      f_X8_count_114 r53 a0 a1 a2 a3 a4 a5 a6 h
noncomputable def f_X8_count_84 (r53 : Nat → Int32 → Int32 → Int32 → Int32 → Int32 → Int32 → zHp → Option (Int32 × zHp)) : Nat → Nat → Int32 → Int32 → Int32 → Int32 → Int32 → Int32 → Int32 → zHp → Option (Int32 × zHp)
  | 0 => fun _ _ _ _ _ _ _ _ _ => none
  | n + 1 => fun a0 a1 a2 a3 a4 a5 a6 a7 h => f_X8_count_84_body r53 (f_X8_count_84 r53 n) a0 a1 a2 a3 a4 a5 a6 a7 h
noncomputable def f_X8_count_79 (r53 : Nat → Int32 → Int32 → Int32 → Int32 → Int32 → Int32 → zHp → Option (Int32 × zHp)) (a0 : Nat) (a1 : Int32) (a3 : Int32) (a4 : Int32) (a5 : Int32) (a6 : Int32) (s0 : Int32) (s1 : Int32) (h : zHp) : Option (Int32 × zHp) :=
  f_X8_count_84 r53 zN a0 a1 (s1 + s0) a3 a4 a5 a6 0 h
noncomputable def f_X8_count_53_body (r53 : Nat → Int32 → Int32 → Int32 → Int32 → Int32 → Int32 → zHp → Option (Int32 × zHp)) (a0 : Nat) (a1 : Int32) (a2 : Int32) (a3 : Int32) (a4 : Int32) (a5 : Int32) (a6 : Int32) (h : zHp) : Option (Int32 × zHp) :=
  (zgR h a0 8 0).bind fun v1 =>
  (zld h v1 0 2).bind fun v2 =>
  if v2 ≤ a6 then
    f_X8_count_123 zN a0 a1 a2 a3 a4 a5 0 h
  else
    zb2 (zif (zis h a0 8) (f_X8_isSick a0 a6 h)) fun v3 h4 =>
    if v3 = 0 then
      f_X8_count_79 r53 a0 a1 a3 a4 a5 a6 0 a2 h4
    else
      f_X8_count_79 r53 a0 a1 a3 a4 a5 a6 1 a2 h4
noncomputable def f_X8_count_53 : Nat → Nat → Int32 → Int32 → Int32 → Int32 → Int32 → Int32 → zHp → Option (Int32 × zHp)
  | 0 => fun _ _ _ _ _ _ _ _ => none
  | n + 1 => fun a0 a1 a2 a3 a4 a5 a6 h => f_X8_count_53_body (f_X8_count_53 n) a0 a1 a2 a3 a4 a5 a6 h
noncomputable def f_X8_count (a0 : Nat) (a1 : Int32) (h : zHp) : Option (Int32 × zHp) :=
  zb2 (f_X8_in a1 2 4 h) fun v1 h2 =>
  if v1 = 0 then
    zb2 (f_X8_in a1 13 17 h2) fun v3 h4 =>
    if v3 = 0 then
      f_X8_count_53 zN a0 a1 0 0 0 0 0 h4
    else
      (zgR h4 a0 8 0).bind fun v5 =>
      (zld h4 v5 0 ((4 + a1) - 13)).bind fun v6 =>
      some (v6, h4)
  else
    zb2 (zif (zis h2 a0 8) (f_X8_sailingsThat a0 (a1 - 2) h2)) fun v7 h8 =>
    some (v7, h8)
noncomputable def f_X8_able_53 (r22 : Nat → Int32 → Int32 → Int32 → Int32 → zHp → Option (Int32 × zHp)) (a0 : Nat) (a1 : Int32) (a2 : Int32) (a4 : Int32) (s0 : Int32) (s1 : Int32) (h : zHp) : Option (Int32 × zHp) :=
  r22 a0 a1 a2 (s1 ||| s0) (a4 + 1) h
noncomputable def f_X8_able_22_body (r22 : Nat → Int32 → Int32 → Int32 → Int32 → zHp → Option (Int32 × zHp)) (a0 : Nat) (a1 : Int32) (a2 : Int32) (a3 : Int32) (a4 : Int32) (h : zHp) : Option (Int32 × zHp) :=
  (zgR h a0 8 0).bind fun v1 =>
  (zld h v1 0 2).bind fun v2 =>
  if v2 ≤ a4 then
    some (a3, h)
  else
    zb2 (zif (zis h a0 8) (f_X8_reason a0 a4 a1 a2 h)) fun v3 h4 =>
    if v3 = 0 then
      f_X8_able_53 r22 a0 a1 a2 a4 (1 <<< (a4 &&& 31)) a3 h4
    else
      f_X8_able_53 r22 a0 a1 a2 a4 0 a3 h4
noncomputable def f_X8_able_22 : Nat → Nat → Int32 → Int32 → Int32 → Int32 → zHp → Option (Int32 × zHp)
  | 0 => fun _ _ _ _ _ _ => none
  | n + 1 => fun a0 a1 a2 a3 a4 h => f_X8_able_22_body (f_X8_able_22 n) a0 a1 a2 a3 a4 h
noncomputable def f_X8_able (a0 : Nat) (a1 : Int32) (a2 : Int32) (h : zHp) : Option (Int32 × zHp) :=
  zb2 (zif (zis h a0 8) (f_X8_isSailing a0 a1 h)) fun v1 h2 =>
  if v1 = 0 then
    some ((-1), h2)
  else
    zb2 (f_X8_isRole a2 h2) fun v3 h4 =>
    if v3 = 0 then
      some ((-1), h4)
    else
      f_X8_able_22 zN a0 a1 a2 0 0 h4
noncomputable def f_X8_freeIfSick (a0 : Nat) (a1 : Int32) (a2 : Int32) (h : zHp) : Option (Int32 × zHp) :=
  (zif (zis h a0 8) (f_X8_lay a0 h)).bind fun h1 =>
  zb2 (zif (zis h1 a0 8) (f_X8_sickNow a0 a1 a2 h1)) fun v2 h3 =>
  (zif (zis h3 a0 8) (f_X8_takeBack a0 h3)).bind fun h4 =>
  some (v2, h4)
noncomputable def f_X8_ifSick (a0 : Nat) (a1 : Int32) (a2 : Int32) (h : zHp) : Option (Int32 × zHp) :=
  zb2 (zif (zis h a0 8) (f_X8_isMember a0 a1 h)) fun v1 h2 =>
  if v1 = 0 then
    some ((-1), h2)
  else
    zb2 (f_X8_in a2 1 400 h2) fun v3 h4 =>
    if v3 = 0 then
      some ((-2), h4)
    else
      zb2 (zif (zis h4 a0 8) (f_X8_freeIfSick a0 a1 a2 h4)) fun v5 h6 =>
      some (v5, h6)
noncomputable def f_X8_weakest_60 (r22 : Nat → Int32 → Int32 → Int32 → Int32 → zHp → Option (Int32 × zHp)) (a0 : Nat) (a1 : Int32) (a2 : Int32) (a3 : Int32) (a4 : Int32) (h : zHp) : Option (Int32 × zHp) :=
  r22 a0 a1 a2 a3 (a4 + 1) h
noncomputable def f_X8_weakest_54 (r22 : Nat → Int32 → Int32 → Int32 → Int32 → zHp → Option (Int32 × zHp)) (a0 : Nat) (a1 : Int32) (a4 : Int32) (a5 : Int32) (h : zHp) : Option (Int32 × zHp) :=
  f_X8_weakest_60 r22 a0 a1 a4 a5 a4 h
noncomputable def f_X8_weakest_22_body (r22 : Nat → Int32 → Int32 → Int32 → Int32 → zHp → Option (Int32 × zHp)) (a0 : Nat) (a1 : Int32) (a2 : Int32) (a3 : Int32) (a4 : Int32) (h : zHp) : Option (Int32 × zHp) :=
  (zgR h a0 8 0).bind fun v1 =>
  (zld h v1 0 2).bind fun v2 =>
  if v2 ≤ a4 then
    some (a2, h)
  else
    zb2 (zif (zis h a0 8) (f_X8_freeIfSick a0 a4 a1 h)) fun v3 h4 =>
    if a2 = (-5) then
      f_X8_weakest_54 r22 a0 a1 a4 v3 h4
    else
      if v3 ≤ a3 then
        f_X8_weakest_60 r22 a0 a1 a2 a3 a4 h4
      else
        f_X8_weakest_54 r22 a0 a1 a4 v3 h4
noncomputable def f_X8_weakest_22 : Nat → Nat → Int32 → Int32 → Int32 → Int32 → zHp → Option (Int32 × zHp)
  | 0 => fun _ _ _ _ _ _ => none
  | n + 1 => fun a0 a1 a2 a3 a4 h => f_X8_weakest_22_body (f_X8_weakest_22 n) a0 a1 a2 a3 a4 h
noncomputable def f_X8_weakest (a0 : Nat) (a1 : Int32) (h : zHp) : Option (Int32 × zHp) :=
  zb2 (f_X8_in a1 1 400 h) fun v1 h2 =>
  if v1 = 0 then
    some ((-2), h2)
  else
    f_X8_weakest_22 zN a0 a1 (-5) 0 0 h2
noncomputable def f_X8_atRisk_55 (r5 : Nat → Int32 → Int32 → zHp → Option (Int32 × zHp)) (a0 : Nat) (a1 : Int32) (a2 : Int32) (h : zHp) : Option (Int32 × zHp) :=
  r5 a0 a1 (a2 + 1) h
noncomputable def f_X8_atRisk_53 (r5 : Nat → Int32 → Int32 → zHp → Option (Int32 × zHp)) (a0 : Nat) (a2 : Int32) (h : zHp) : Option (Int32 × zHp) :=
  f_X8_atRisk_55 r5 a0 a2 a2 h
noncomputable def f_X8_atRisk_5_body (r5 : Nat → Int32 → Int32 → zHp → Option (Int32 × zHp)) (a0 : Nat) (a1 : Int32) (a2 : Int32) (h : zHp) : Option (Int32 × zHp) :=
  (zgR h a0 8 0).bind fun v1 =>
  (zld h v1 0 1).bind fun v2 =>
  if v2 ≤ a2 then
    some (a1, h)
  else
    zb2 (zif (zis h a0 8) (f_X8_is a0 a2 0 h)) fun v3 h4 =>
    if v3 = 0 then
      f_X8_atRisk_55 r5 a0 a1 a2 h4
    else
      zb2 (zif (zis h4 a0 8) (f_X8_freeOf a0 a2 h4)) fun v5 h6 =>
      if v5 ≤ 0 then
        f_X8_atRisk_55 r5 a0 a1 a2 h6
      else
        if a1 = (-5) then
          f_X8_atRisk_53 r5 a0 a2 h6
        else
          zb2 (zif (zis h6 a0 8) (f_X8_of a0 a2 2 h6)) fun v7 h8 =>
          zb2 (zif (zis h8 a0 8) (f_X8_of a0 a1 2 h8)) fun v9 h10 =>
          if v9 ≤ v7 then
            f_X8_atRisk_55 r5 a0 a1 a2 h10
          else
            f_X8_atRisk_53 r5 a0 a2 h10
noncomputable def f_X8_atRisk_5 : Nat → Nat → Int32 → Int32 → zHp → Option (Int32 × zHp)
  | 0 => fun _ _ _ _ => none
  | n + 1 => fun a0 a1 a2 h => f_X8_atRisk_5_body (f_X8_atRisk_5 n) a0 a1 a2 h
noncomputable def f_X8_atRisk (a0 : Nat) (h : zHp) : Option (Int32 × zHp) :=
  f_X8_atRisk_5 zN a0 (-5) 0 h
noncomputable def f_X8_cancelledIn_68 (r18 : Nat → Int32 → Int32 → Int32 → zHp → Option (Int32 × zHp)) (a0 : Nat) (a1 : Int32) (a3 : Int32) (s0 : Int32) (s1 : Int32) (h : zHp) : Option (Int32 × zHp) :=
  r18 a0 a1 (s1 + s0) (a3 + 1) h
noncomputable def f_X8_cancelledIn_67 (r18 : Nat → Int32 → Int32 → Int32 → zHp → Option (Int32 × zHp)) (a0 : Nat) (a1 : Int32) (a3 : Int32) (s0 : Int32) (h : zHp) : Option (Int32 × zHp) :=
  f_X8_cancelledIn_68 r18 a0 a1 a3 0 s0 h
noncomputable def f_X8_cancelledIn_18_body (r18 : Nat → Int32 → Int32 → Int32 → zHp → Option (Int32 × zHp)) (a0 : Nat) (a1 : Int32) (a2 : Int32) (a3 : Int32) (h : zHp) : Option (Int32 × zHp) :=
  (zgR h a0 8 0).bind fun v1 =>
  (zld h v1 0 1).bind fun v2 =>
  if v2 ≤ a3 then
    some (a2, h)
  else
    zb2 (zif (zis h a0 8) (f_X8_is a0 a3 0 h)) fun v3 h4 =>
    if v3 = 0 then
      f_X8_cancelledIn_67 r18 a0 a1 a3 a2 h4
    else
      zb2 (zif (zis h4 a0 8) (f_X8_of a0 a3 2 h4)) fun v5 h6 =>
      (zgR h6 a0 8 0).bind fun v7 =>
      (zld h6 v7 0 0).bind fun v8 =>
      if (v8 + a1) ≤ v5 then
        f_X8_cancelledIn_67 r18 a0 a1 a3 a2 h6
      else
        zb2 (zif (zis h6 a0 8) (f_X8_freeOf a0 a3 h6)) fun v9 h10 =>
        if v9 ≤ 0 then
          f_X8_cancelledIn_67 r18 a0 a1 a3 a2 h10
        else
          f_X8_cancelledIn_68 r18 a0 a1 a3 1 a2 h10
noncomputable def f_X8_cancelledIn_18 : Nat → Nat → Int32 → Int32 → Int32 → zHp → Option (Int32 × zHp)
  | 0 => fun _ _ _ _ _ => none
  | n + 1 => fun a0 a1 a2 a3 h => f_X8_cancelledIn_18_body (f_X8_cancelledIn_18 n) a0 a1 a2 a3 h
noncomputable def f_X8_cancelledIn (a0 : Nat) (a1 : Int32) (h : zHp) : Option (Int32 × zHp) :=
  zb2 (f_X8_in a1 1 1000 h) fun v1 h2 =>
  if v1 = 0 then
    some ((-2), h2)
  else
    f_X8_cancelledIn_18 zN a0 a1 0 0 h2
noncomputable def f_X8_freshest_41 (r7 : Nat → Int32 → Int32 → Int32 → zHp → Option (Int32 × zHp)) (a0 : Nat) (a1 : Int32) (a2 : Int32) (a3 : Int32) (h : zHp) : Option (Int32 × zHp) :=
  r7 a0 a1 a2 (a3 + 1) h
noncomputable def f_X8_freshest_36 (r7 : Nat → Int32 → Int32 → Int32 → zHp → Option (Int32 × zHp)) (a0 : Nat) (a3 : Int32) (a4 : Int32) (h : zHp) : Option (Int32 × zHp) :=
  f_X8_freshest_41 r7 a0 a3 a4 a3 h
noncomputable def f_X8_freshest_7_body (r7 : Nat → Int32 → Int32 → Int32 → zHp → Option (Int32 × zHp)) (a0 : Nat) (a1 : Int32) (a2 : Int32) (a3 : Int32) (h : zHp) : Option (Int32 × zHp) :=
  (zgR h a0 8 0).bind fun v1 =>
  (zld h v1 0 2).bind fun v2 =>
  if v2 ≤ a3 then
    some (a1, h)
  else
    zb2 (zif (zis h a0 8) (f_X8_dutyHours a0 a3 h)) fun v3 h4 =>
    if a1 = (-5) then
      f_X8_freshest_36 r7 a0 a3 v3 h4
    else
      if a2 ≤ v3 then
        f_X8_freshest_41 r7 a0 a1 a2 a3 h4
      else
        f_X8_freshest_36 r7 a0 a3 v3 h4
noncomputable def f_X8_freshest_7 : Nat → Nat → Int32 → Int32 → Int32 → zHp → Option (Int32 × zHp)
  | 0 => fun _ _ _ _ _ => none
  | n + 1 => fun a0 a1 a2 a3 h => f_X8_freshest_7_body (f_X8_freshest_7 n) a0 a1 a2 a3 h
noncomputable def f_X8_freshest (a0 : Nat) (h : zHp) : Option (Int32 × zHp) :=
  f_X8_freshest_7 zN a0 (-5) 0 0 h
