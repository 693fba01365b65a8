/-! ===== what the methods do, over the abstract memory (by program: wip/whole/gen.py) ===== -/
def dd_X10_init  (l0 : Nat) (l1 : Int32) (l2 : Int32) (m0 : ab_Mm) : Option (Unit × ab_Mm) :=
  (ab_pI m0 10 l0 3 (0 : Int32)).bind fun m1 =>
  (ab_pI m1 10 l0 0 (if (0 : Int32) < (if (1000 : Int32) < l1 then (1000 : Int32) else l1) then (if (1000 : Int32) < l1 then (1000 : Int32) else l1) else (0 : Int32))).bind fun m2 =>
  (ab_pI m2 10 l0 1 (if (0 : Int32) < (if (1000 : Int32) < l2 then (1000 : Int32) else l2) then (if (1000 : Int32) < l2 then (1000 : Int32) else l2) else (0 : Int32))).bind fun m3 =>
  (ab_fI m3 10 l0 0).bind fun v4 =>
  (ab_fI m3 10 l0 1).bind fun v5 =>
  (ab_na m3 1 (v4 * v5)).bind fun q6 =>
  (ab_pR q6.2 10 l0 2 q6.1).bind fun m7 =>
  some ((), m7)
def dd_X0_init  (l0 : Nat) (m0 : ab_Mm) : Option (Unit × ab_Mm) :=
  (ab_nw m0 (0, 10, [none, none, some none, none])).bind fun q1 =>
  (dd_X10_init q1.1 (6 : Int32) (1 : Int32) q1.2).bind fun q2 =>
  (ab_pR q2.2 0 l0 0 q1.1).bind fun m3 =>
  (ab_nw m3 (0, 10, [none, none, some none, none])).bind fun q4 =>
  (dd_X10_init q4.1 (6 : Int32) (6 : Int32) q4.2).bind fun q5 =>
  (ab_pR q5.2 0 l0 1 q4.1).bind fun m6 =>
  some ((), m6)
def bb_J7_fill_53178_5  : Nat → Nat → Int32 → Int32 → Int32 → ab_Mm → Option (Unit × ab_Mm)
  | 0, _, _, _, _, _ => none
  | n + 1, l0, l1, l2, l3, m0 =>
    if l3 ≤ l2 then
      some ((), m0)
    else
      (ab_st m0 1 l0 l2 l1).bind fun m1 =>
      bb_J7_fill_53178_5  n l0 l1 (l2 + (1 : Int32)) l3 m1
def dd_J7_fill_53178  (l0 : Nat) (l1 : Int32) (m0 : ab_Mm) : Option (Unit × ab_Mm) :=
  (ab_len m0 1 l0).bind fun v1 =>
  bb_J7_fill_53178_5  ab_fu l0 l1 (0 : Int32) v1 m0
def dd_X10_clear  (l0 : Nat) (m0 : ab_Mm) : Option (Unit × ab_Mm) :=
  (ab_fR m0 10 l0 2).bind fun v1 =>
  (dd_J7_fill_53178 v1 (0 : Int32) m0).bind fun q2 =>
  (ab_pI q2.2 10 l0 3 (0 : Int32)).bind fun m3 =>
  some ((), m3)
def bb_X10_get_44  (s0 : Int32) (m0 : ab_Mm) : Option (Int32 × ab_Mm) :=
  some (s0, m0)
def bb_X10_get_43   (m0 : ab_Mm) : Option (Int32 × ab_Mm) :=
  bb_X10_get_44  (0 : Int32) m0
def dd_X10_get  (l0 : Nat) (l1 : Int32) (l2 : Int32) (m0 : ab_Mm) : Option (Int32 × ab_Mm) :=
  (ab_fI m0 10 l0 1).bind fun v1 =>
  if l2 < 0 then
    bb_X10_get_43   m0
  else
    (ab_fI m0 10 l0 1).bind fun v2 =>
    if v2 ≤ l2 then
      bb_X10_get_43   m0
    else
      if ((l1 * v1) + l2) < 0 then
        bb_X10_get_43   m0
      else
        (ab_fR m0 10 l0 2).bind fun v3 =>
        (ab_len m0 1 v3).bind fun v4 =>
        if v4 ≤ ((l1 * v1) + l2) then
          bb_X10_get_43   m0
        else
          (ab_fR m0 10 l0 2).bind fun v5 =>
          (ab_ld m0 1 v5 ((l1 * v1) + l2)).bind fun v6 =>
          bb_X10_get_44  v6 m0
def bb_X1_isActive_31  (s0 : Int32) (m0 : ab_Mm) : Option (Int32 × ab_Mm) :=
  if ¬ (s0 &&& 1 = s0) then none else
  some (s0, m0)
def bb_X1_isActive_30   (m0 : ab_Mm) : Option (Int32 × ab_Mm) :=
  bb_X1_isActive_31  (0 : Int32) m0
def dd_X1_isActive  (l0 : Nat) (l1 : Int32) (l2 : Int32) (m0 : ab_Mm) : Option (Int32 × ab_Mm) :=
  (ab_fR m0 1 l0 3).bind fun v1 =>
  (ab_rc m0 10 v1).bind fun _ =>
  (dd_X10_get v1 l1 (3 : Int32) m0).bind fun q2 =>
  if l2 < q2.1 then
    bb_X1_isActive_30   q2.2
  else
    (ab_fR q2.2 1 l0 3).bind fun v3 =>
    (ab_rc q2.2 10 v3).bind fun _ =>
    (dd_X10_get v3 l1 (4 : Int32) q2.2).bind fun q4 =>
    if q4.1 ≤ l2 then
      bb_X1_isActive_30   q4.2
    else
      bb_X1_isActive_31  (1 : Int32) q4.2
def dd_X1_payment  (l0 : Nat) (l1 : Int32) (m0 : ab_Mm) : Option (Int32 × ab_Mm) :=
  (ab_fR m0 1 l0 1).bind fun v1 =>
  (ab_fR m0 1 l0 3).bind fun v2 =>
  (ab_rc m0 10 v2).bind fun _ =>
  (dd_X10_get v2 l1 (1 : Int32) m0).bind fun q3 =>
  (ab_rc q3.2 10 v1).bind fun _ =>
  (dd_X10_get v1 q3.1 (2 : Int32) q3.2).bind fun q4 =>
  (ab_fR q4.2 1 l0 3).bind fun v5 =>
  (ab_rc q4.2 10 v5).bind fun _ =>
  (dd_X10_get v5 l1 (5 : Int32) q4.2).bind fun q6 =>
  if (100 : Int32) = 0 then none else
  (ab_fR q6.2 1 l0 3).bind fun v7 =>
  (ab_rc q6.2 10 v7).bind fun _ =>
  (dd_X10_get v7 l1 (2 : Int32) q6.2).bind fun q8 =>
  some ((q8.1 * ((q4.1 * ((100 : Int32) - q6.1)) / (100 : Int32))), q8.2)
def bb_X10_set_45   (m0 : ab_Mm) : Option (Unit × ab_Mm) :=
  some ((), m0)
def dd_X10_set  (l0 : Nat) (l1 : Int32) (l2 : Int32) (l3 : Int32) (m0 : ab_Mm) : Option (Unit × ab_Mm) :=
  (ab_fI m0 10 l0 1).bind fun v1 =>
  if l2 < 0 then
    bb_X10_set_45   m0
  else
    (ab_fI m0 10 l0 1).bind fun v2 =>
    if v2 ≤ l2 then
      bb_X10_set_45   m0
    else
      if ((l1 * v1) + l2) < 0 then
        bb_X10_set_45   m0
      else
        (ab_fR m0 10 l0 2).bind fun v3 =>
        (ab_len m0 1 v3).bind fun v4 =>
        if v4 ≤ ((l1 * v1) + l2) then
          bb_X10_set_45   m0
        else
          (ab_fR m0 10 l0 2).bind fun v5 =>
          (ab_st m0 1 v5 ((l1 * v1) + l2) l3).bind fun m6 =>
          bb_X10_set_45   m6
def dd_X10_add  (l0 : Nat) (l1 : Int32) (l2 : Int32) (l3 : Int32) (m0 : ab_Mm) : Option (Unit × ab_Mm) :=
  (ab_rc m0 10 l0).bind fun _ =>
  (dd_X10_get l0 l1 l2 m0).bind fun q1 =>
  (ab_rc q1.2 10 l0).bind fun _ =>
  (dd_X10_set l0 l1 l2 (q1.1 + l3) q1.2).bind fun q2 =>
  some ((), q2.2)
def bb_X8_runs_26  (s0 : Int32) (m0 : ab_Mm) : Option (Int32 × ab_Mm) :=
  if ¬ (s0 &&& 1 = s0) then none else
  some (s0, m0)
def bb_X8_runs_25   (m0 : ab_Mm) : Option (Int32 × ab_Mm) :=
  bb_X8_runs_26  (0 : Int32) m0
def dd_X8_runs  (l0 : Nat) (l1 : Int32) (m0 : ab_Mm) : Option (Int32 × ab_Mm) :=
  if l1 < 0 then
    bb_X8_runs_25   m0
  else
    if (12 : Int32) ≤ l1 then
      bb_X8_runs_25   m0
    else
      (ab_fI m0 8 l0 1).bind fun v1 =>
      if ((v1 >>> (l1 &&& 31)) &&& (1 : Int32)) = 0 then
        bb_X8_runs_25   m0
      else
        bb_X8_runs_26  (1 : Int32) m0
def bb_X0_addInstance_107   (m0 : ab_Mm) : Option (Unit × ab_Mm) :=
  some ((), m0)
def dd_X0_addInstance  (l0 : Nat) (l1 : Nat) (l2 : Nat) (l3 : Int32) (m0 : ab_Mm) : Option (Unit × ab_Mm) :=
  (ab_fR m0 8 l2 2).bind fun v1 =>
  (ab_rc m0 10 v1).bind fun _ =>
  (dd_X10_get v1 l3 (0 : Int32) m0).bind fun q2 =>
  (ab_fR q2.2 8 l2 2).bind fun v3 =>
  (ab_rc q2.2 10 v3).bind fun _ =>
  (dd_X10_get v3 l3 (1 : Int32) q2.2).bind fun q4 =>
  (ab_fR q4.2 8 l2 2).bind fun v5 =>
  (ab_rc q4.2 10 v5).bind fun _ =>
  (dd_X10_get v5 l3 (2 : Int32) q4.2).bind fun q6 =>
  if q6.1 = (-1 : Int32) then
    (ab_fR q6.2 0 l0 1).bind fun v7 =>
    (ab_rc q6.2 10 v7).bind fun _ =>
    (dd_X10_get v7 q2.1 q4.1 q6.2).bind fun q8 =>
    if q8.1 ≤ 0 then
      (ab_fR q8.2 0 l0 0).bind fun v9 =>
      (ab_fR q8.2 1 l1 1).bind fun v10 =>
      (ab_rc q8.2 10 v10).bind fun _ =>
      (dd_X10_get v10 q4.1 (2 : Int32) q8.2).bind fun q11 =>
      (ab_rc q11.2 10 v9).bind fun _ =>
      (dd_X10_add v9 q2.1 (0 : Int32) q11.1 q11.2).bind fun q12 =>
      bb_X0_addInstance_107   q12.2
    else
      (ab_fR q8.2 0 l0 1).bind fun v13 =>
      (ab_rc q8.2 10 v13).bind fun _ =>
      (dd_X10_add v13 q2.1 q4.1 (-1 : Int32) q8.2).bind fun q14 =>
      bb_X0_addInstance_107   q14.2
  else
    (ab_fR q6.2 0 l0 0).bind fun v15 =>
    (ab_fR q6.2 8 l2 4).bind fun v16 =>
    (ab_rc q6.2 10 v16).bind fun _ =>
    (dd_X10_get v16 q4.1 (0 : Int32) q6.2).bind fun q17 =>
    (ab_rc q17.2 10 v15).bind fun _ =>
    (dd_X10_add v15 q2.1 (0 : Int32) q17.1 q17.2).bind fun q18 =>
    bb_X0_addInstance_107   q18.2
def bb_X0_reckon_121 (r100 : Nat → Nat → Nat → Int32 → ab_Mm → Option (Unit × ab_Mm)) (l0 : Nat) (l1 : Nat) (l2 : Nat) (l3 : Int32) (m0 : ab_Mm) : Option (Unit × ab_Mm) :=
  r100 l0 l1 l2 (l3 + (1 : Int32)) m0
def bb_X0_reckon_100  : Nat → Nat → Nat → Nat → Int32 → ab_Mm → Option (Unit × ab_Mm)
  | 0, _, _, _, _, _ => none
  | n + 1, l0, l1, l2, l3, m0 =>
    if (12 : Int32) ≤ l3 then
      some ((), m0)
    else
      (ab_rc m0 8 l2).bind fun _ =>
      (dd_X8_runs l2 l3 m0).bind fun q1 =>
      if q1.1 = 0 then
        bb_X0_reckon_121 (bb_X0_reckon_100  n) l0 l1 l2 l3 q1.2
      else
        (ab_rc q1.2 0 l0).bind fun _ =>
        (dd_X0_addInstance l0 l1 l2 l3 q1.2).bind fun q2 =>
        bb_X0_reckon_121 (bb_X0_reckon_100  n) l0 l1 l2 l3 q2.2
def bb_X0_reckon_92 (r16 : Nat → Nat → Nat → Int32 → ab_Mm → Option (Unit × ab_Mm)) (l0 : Nat) (l1 : Nat) (l2 : Nat) (l3 : Int32) (m0 : ab_Mm) : Option (Unit × ab_Mm) :=
  r16 l0 l1 l2 (l3 + (1 : Int32)) m0
def bb_X0_reckon_16  : Nat → Nat → Nat → Nat → Int32 → ab_Mm → Option (Unit × ab_Mm)
  | 0, _, _, _, _, _ => none
  | n + 1, l0, l1, l2, l3, m0 =>
    (ab_fR m0 1 l1 3).bind fun v1 =>
    (ab_fI m0 10 v1 3).bind fun v2 =>
    if v2 ≤ l3 then
      bb_X0_reckon_100  ab_fu l0 l1 l2 (0 : Int32) m0
    else
      (ab_fI m0 8 l2 0).bind fun v3 =>
      (ab_rc m0 1 l1).bind fun _ =>
      (dd_X1_isActive l1 l3 v3 m0).bind fun q4 =>
      if q4.1 = 0 then
        bb_X0_reckon_92 (bb_X0_reckon_16  n) l0 l1 l2 l3 q4.2
      else
        (ab_fR q4.2 1 l1 3).bind fun v5 =>
        (ab_rc q4.2 10 v5).bind fun _ =>
        (dd_X10_get v5 l3 (0 : Int32) q4.2).bind fun q6 =>
        (ab_fR q6.2 0 l0 0).bind fun v7 =>
        (ab_rc q6.2 1 l1).bind fun _ =>
        (dd_X1_payment l1 l3 q6.2).bind fun q8 =>
        (ab_rc q8.2 10 v7).bind fun _ =>
        (dd_X10_add v7 q6.1 (0 : Int32) q8.1 q8.2).bind fun q9 =>
        (ab_fR q9.2 0 l0 1).bind fun v10 =>
        (ab_fR q9.2 1 l1 3).bind fun v11 =>
        (ab_rc q9.2 10 v11).bind fun _ =>
        (dd_X10_get v11 l3 (1 : Int32) q9.2).bind fun q12 =>
        (ab_fR q12.2 1 l1 3).bind fun v13 =>
        (ab_rc q12.2 10 v13).bind fun _ =>
        (dd_X10_get v13 l3 (2 : Int32) q12.2).bind fun q14 =>
        (ab_rc q14.2 10 v10).bind fun _ =>
        (dd_X10_add v10 q6.1 q12.1 q14.1 q14.2).bind fun q15 =>
        bb_X0_reckon_92 (bb_X0_reckon_16  n) l0 l1 l2 l3 q15.2
def dd_X0_reckon  (l0 : Nat) (l1 : Nat) (l2 : Nat) (m0 : ab_Mm) : Option (Unit × ab_Mm) :=
  (ab_fR m0 0 l0 0).bind fun v1 =>
  (ab_rc m0 10 v1).bind fun _ =>
  (dd_X10_clear v1 m0).bind fun q2 =>
  (ab_fR q2.2 0 l0 1).bind fun v3 =>
  (ab_rc q2.2 10 v3).bind fun _ =>
  (dd_X10_clear v3 q2.2).bind fun q4 =>
  bb_X0_reckon_16  ab_fu l0 l1 l2 (0 : Int32) q4.2
def bb_X8_charge_24   (m0 : ab_Mm) : Option (Unit × ab_Mm) :=
  some ((), m0)
def dd_X8_charge  (l0 : Nat) (l1 : Int32) (l2 : Int32) (m0 : ab_Mm) : Option (Unit × ab_Mm) :=
  if l1 < 0 then
    bb_X8_charge_24   m0
  else
    (ab_fR m0 8 l0 6).bind fun v1 =>
    (ab_len m0 4 v1).bind fun v2 =>
    if v2 ≤ l1 then
      bb_X8_charge_24   m0
    else
      (ab_fR m0 8 l0 6).bind fun v3 =>
      (ab_ldJ m0 v3 l1).bind fun v4 =>
      (ab_stJ m0 v3 l1 (v4 + l2.toInt64)).bind fun m5 =>
      bb_X8_charge_24   m5
def bb_X0_charge_2  : Nat → Nat → Nat → Int32 → ab_Mm → Option (Unit × ab_Mm)
  | 0, _, _, _, _ => none
  | n + 1, l0, l1, l2, m0 =>
    if (6 : Int32) ≤ l2 then
      some ((), m0)
    else
      (ab_fR m0 0 l0 0).bind fun v1 =>
      (ab_rc m0 10 v1).bind fun _ =>
      (dd_X10_get v1 l2 (0 : Int32) m0).bind fun q2 =>
      (ab_rc q2.2 8 l1).bind fun _ =>
      (dd_X8_charge l1 l2 q2.1 q2.2).bind fun q3 =>
      bb_X0_charge_2  n l0 l1 (l2 + (1 : Int32)) q3.2
def dd_X0_charge  (l0 : Nat) (l1 : Nat) (m0 : ab_Mm) : Option (Unit × ab_Mm) :=
  bb_X0_charge_2  ab_fu l0 l1 (0 : Int32) m0
def dd_X9_init  (l0 : Nat) (m0 : ab_Mm) : Option (Unit × ab_Mm) :=
  (ab_na m0 1 (800 : Int32)).bind fun q1 =>
  (ab_pR q1.2 9 l0 0 q1.1).bind fun m2 =>
  (ab_pI m2 9 l0 1 (0 : Int32)).bind fun m3 =>
  (ab_na m3 1 (16 : Int32)).bind fun q4 =>
  (ab_pR q4.2 9 l0 2 q4.1).bind fun m5 =>
  some ((), m5)
def dd_X9_clear  (l0 : Nat) (m0 : ab_Mm) : Option (Unit × ab_Mm) :=
  (ab_pI m0 9 l0 1 (0 : Int32)).bind fun m1 =>
  some ((), m1)
def bb_X9_add_39   (m0 : ab_Mm) : Option (Unit × ab_Mm) :=
  some ((), m0)
def dd_X9_add  (l0 : Nat) (l1 : Int32) (m0 : ab_Mm) : Option (Unit × ab_Mm) :=
  (ab_fI m0 9 l0 1).bind fun v1 =>
  if v1 < 0 then
    bb_X9_add_39   m0
  else
    (ab_fI m0 9 l0 1).bind fun v2 =>
    (ab_fR m0 9 l0 0).bind fun v3 =>
    (ab_len m0 1 v3).bind fun v4 =>
    if v4 ≤ v2 then
      bb_X9_add_39   m0
    else
      (ab_fR m0 9 l0 0).bind fun v5 =>
      (ab_fI m0 9 l0 1).bind fun v6 =>
      (ab_st m0 1 v5 v6 l1).bind fun m7 =>
      (ab_fI m7 9 l0 1).bind fun v8 =>
      (ab_pI m7 9 l0 1 (v8 + (1 : Int32))).bind fun m9 =>
      bb_X9_add_39   m9
def dd_X1_reset  (l0 : Nat) (m0 : ab_Mm) : Option (Unit × ab_Mm) :=
  (ab_fR m0 1 l0 0).bind fun v1 =>
  (ab_rc m0 10 v1).bind fun _ =>
  (dd_X10_clear v1 m0).bind fun q2 =>
  (ab_fR q2.2 1 l0 1).bind fun v3 =>
  (ab_rc q2.2 10 v3).bind fun _ =>
  (dd_X10_clear v3 q2.2).bind fun q4 =>
  (ab_fR q4.2 1 l0 2).bind fun v5 =>
  (ab_rc q4.2 10 v5).bind fun _ =>
  (dd_X10_clear v5 q4.2).bind fun q6 =>
  (ab_fR q6.2 1 l0 3).bind fun v7 =>
  (ab_rc q6.2 10 v7).bind fun _ =>
  (dd_X10_clear v7 q6.2).bind fun q8 =>
  (ab_fR q8.2 1 l0 4).bind fun v9 =>
  (ab_rc q8.2 10 v9).bind fun _ =>
  (dd_X10_clear v9 q8.2).bind fun q10 =>
  (ab_fR q10.2 1 l0 4).bind fun v11 =>
  (ab_rc q10.2 10 v11).bind fun _ =>
  (dd_X10_set v11 (0 : Int32) (0 : Int32) (20 : Int32) q10.2).bind fun q12 =>
  (ab_fR q12.2 1 l0 4).bind fun v13 =>
  (ab_rc q12.2 10 v13).bind fun _ =>
  (dd_X10_set v13 (0 : Int32) (1 : Int32) (2 : Int32) q12.2).bind fun q14 =>
  (ab_fR q14.2 1 l0 4).bind fun v15 =>
  (ab_rc q14.2 10 v15).bind fun _ =>
  (dd_X10_set v15 (0 : Int32) (2 : Int32) (100 : Int32) q14.2).bind fun q16 =>
  (ab_fR q16.2 1 l0 5).bind fun v17 =>
  (ab_rc q16.2 9 v17).bind fun _ =>
  (dd_X9_clear v17 q16.2).bind fun q18 =>
  (ab_fR q18.2 1 l0 5).bind fun v19 =>
  (ab_rc q18.2 9 v19).bind fun _ =>
  (dd_X9_add v19 (-2 : Int32) q18.2).bind fun q20 =>
  some ((), q20.2)
def dd_X1_init  (l0 : Nat) (m0 : ab_Mm) : Option (Unit × ab_Mm) :=
  (ab_nw m0 (0, 10, [none, none, some none, none])).bind fun q1 =>
  (dd_X10_init q1.1 (8 : Int32) (2 : Int32) q1.2).bind fun q2 =>
  (ab_pR q2.2 1 l0 0 q1.1).bind fun m3 =>
  (ab_nw m3 (0, 10, [none, none, some none, none])).bind fun q4 =>
  (dd_X10_init q4.1 (6 : Int32) (3 : Int32) q4.2).bind fun q5 =>
  (ab_pR q5.2 1 l0 1 q4.1).bind fun m6 =>
  (ab_nw m6 (0, 10, [none, none, some none, none])).bind fun q7 =>
  (dd_X10_init q7.1 (6 : Int32) (1 : Int32) q7.2).bind fun q8 =>
  (ab_pR q8.2 1 l0 2 q7.1).bind fun m9 =>
  (ab_nw m9 (0, 10, [none, none, some none, none])).bind fun q10 =>
  (dd_X10_init q10.1 (8 : Int32) (6 : Int32) q10.2).bind fun q11 =>
  (ab_pR q11.2 1 l0 3 q10.1).bind fun m12 =>
  (ab_nw m12 (0, 10, [none, none, some none, none])).bind fun q13 =>
  (dd_X10_init q13.1 (1 : Int32) (3 : Int32) q13.2).bind fun q14 =>
  (ab_pR q14.2 1 l0 4 q13.1).bind fun m15 =>
  (ab_nw m15 (0, 9, [some none, none, some none])).bind fun q16 =>
  (dd_X9_init q16.1 q16.2).bind fun q17 =>
  (ab_pR q17.2 1 l0 5 q16.1).bind fun m18 =>
  (ab_rc m18 1 l0).bind fun _ =>
  (dd_X1_reset l0 m18).bind fun q19 =>
  some ((), q19.2)
def dd_X10_copyFrom  (l0 : Nat) (l1 : Nat) (m0 : ab_Mm) : Option (Unit × ab_Mm) :=
  (ab_fR m0 10 l1 2).bind fun v1 =>
  (ab_fR m0 10 l0 2).bind fun v2 =>
  (ab_fR m0 10 l0 2).bind fun v3 =>
  (ab_len m0 1 v3).bind fun v4 =>
  (ab_fR m0 10 l1 2).bind fun v5 =>
  (ab_len m0 1 v5).bind fun v6 =>
  (ab_cpI m0 v1 (0 : Int32) v2 (0 : Int32) (if v6 < v4 then v6 else v4)).bind fun m7 =>
  (ab_fI m7 10 l1 3).bind fun v8 =>
  (ab_pI m7 10 l0 3 v8).bind fun m9 =>
  some ((), m9)
def dd_X9_copyFrom  (l0 : Nat) (l1 : Nat) (m0 : ab_Mm) : Option (Unit × ab_Mm) :=
  (ab_fR m0 9 l0 0).bind fun v1 =>
  (ab_len m0 1 v1).bind fun v2 =>
  (ab_fR m0 9 l1 0).bind fun v3 =>
  (ab_len m0 1 v3).bind fun v4 =>
  (ab_fI m0 9 l1 1).bind fun v5 =>
  (ab_pI m0 9 l0 1 (if (0 : Int32) < (if (if v4 < v2 then v4 else v2) < v5 then (if v4 < v2 then v4 else v2) else v5) then (if (if v4 < v2 then v4 else v2) < v5 then (if v4 < v2 then v4 else v2) else v5) else (0 : Int32))).bind fun m6 =>
  (ab_fR m6 9 l1 0).bind fun v7 =>
  (ab_fR m6 9 l0 0).bind fun v8 =>
  (ab_fI m6 9 l0 1).bind fun v9 =>
  (ab_cpI m6 v7 (0 : Int32) v8 (0 : Int32) v9).bind fun m10 =>
  some ((), m10)
def dd_X1_copyFrom  (l0 : Nat) (l1 : Nat) (m0 : ab_Mm) : Option (Unit × ab_Mm) :=
  (ab_fR m0 1 l0 0).bind fun v1 =>
  (ab_fR m0 1 l1 0).bind fun v2 =>
  (ab_rc m0 10 v1).bind fun _ =>
  (dd_X10_copyFrom v1 v2 m0).bind fun q3 =>
  (ab_fR q3.2 1 l0 1).bind fun v4 =>
  (ab_fR q3.2 1 l1 1).bind fun v5 =>
  (ab_rc q3.2 10 v4).bind fun _ =>
  (dd_X10_copyFrom v4 v5 q3.2).bind fun q6 =>
  (ab_fR q6.2 1 l0 2).bind fun v7 =>
  (ab_fR q6.2 1 l1 2).bind fun v8 =>
  (ab_rc q6.2 10 v7).bind fun _ =>
  (dd_X10_copyFrom v7 v8 q6.2).bind fun q9 =>
  (ab_fR q9.2 1 l0 3).bind fun v10 =>
  (ab_fR q9.2 1 l1 3).bind fun v11 =>
  (ab_rc q9.2 10 v10).bind fun _ =>
  (dd_X10_copyFrom v10 v11 q9.2).bind fun q12 =>
  (ab_fR q12.2 1 l0 4).bind fun v13 =>
  (ab_fR q12.2 1 l1 4).bind fun v14 =>
  (ab_rc q12.2 10 v13).bind fun _ =>
  (dd_X10_copyFrom v13 v14 q12.2).bind fun q15 =>
  (ab_fR q15.2 1 l0 5).bind fun v16 =>
  (ab_fR q15.2 1 l1 5).bind fun v17 =>
  (ab_rc q15.2 9 v16).bind fun _ =>
  (dd_X9_copyFrom v16 v17 q15.2).bind fun q18 =>
  some ((), q18.2)
def dd_X1_priceAt  (l0 : Nat) (l1 : Int32) (l2 : Int32) (m0 : ab_Mm) : Option (Int32 × ab_Mm) :=
  (ab_fR m0 1 l0 4).bind fun v1 =>
  (ab_rc m0 10 v1).bind fun _ =>
  (dd_X10_get v1 (0 : Int32) (0 : Int32) m0).bind fun q2 =>
  (ab_fR q2.2 1 l0 4).bind fun v3 =>
  (ab_rc q2.2 10 v3).bind fun _ =>
  (dd_X10_get v3 (0 : Int32) (2 : Int32) q2.2).bind fun q4 =>
  if (100 : Int32) = 0 then none else
  (ab_fR q4.2 1 l0 1).bind fun v5 =>
  (ab_rc q4.2 10 v5).bind fun _ =>
  (dd_X10_get v5 l1 (2 : Int32) q4.2).bind fun q6 =>
  if (100 : Int32) = 0 then none else
  some ((if ((q6.1 * (q2.1 + ((q4.1 * l2) / (100 : Int32)))) / (100 : Int32)) < q6.1 then ((q6.1 * (q2.1 + ((q4.1 * l2) / (100 : Int32)))) / (100 : Int32)) else q6.1), q6.2)
def bb_X1_reserved_83 (r6 : Nat → Int32 → Int32 → Int32 → Int32 → Int32 → ab_Mm → Option (Int32 × ab_Mm)) (l0 : Nat) (l1 : Int32) (l2 : Int32) (l3 : Int32) (l4 : Int32) (l5 : Int32) (m0 : ab_Mm) : Option (Int32 × ab_Mm) :=
  r6 l0 l1 l2 l3 l4 (l5 + (1 : Int32)) m0
def bb_X1_reserved_51 (r6 : Nat → Int32 → Int32 → Int32 → Int32 → Int32 → ab_Mm → Option (Int32 × ab_Mm)) (l0 : Nat) (l1 : Int32) (l2 : Int32) (l3 : Int32) (l4 : Int32) (l5 : Int32) (s0 : Int32) (m0 : ab_Mm) : Option (Int32 × ab_Mm) :=
  if s0 = 0 then
    bb_X1_reserved_83 r6 l0 l1 l2 l3 l4 l5 m0
  else
    (ab_rc m0 1 l0).bind fun _ =>
    (dd_X1_isActive l0 l5 l3 m0).bind fun q1 =>
    if q1.1 = 0 then
      bb_X1_reserved_83 r6 l0 l1 l2 l3 l4 l5 q1.2
    else
      (ab_fR q1.2 1 l0 3).bind fun v2 =>
      (ab_rc q1.2 10 v2).bind fun _ =>
      (dd_X10_get v2 l5 (2 : Int32) q1.2).bind fun q3 =>
      bb_X1_reserved_83 r6 l0 l1 l2 l3 (l4 + q3.1) l5 q3.2
def bb_X1_reserved_50 (r6 : Nat → Int32 → Int32 → Int32 → Int32 → Int32 → ab_Mm → Option (Int32 × ab_Mm)) (l0 : Nat) (l1 : Int32) (l2 : Int32) (l3 : Int32) (l4 : Int32) (l5 : Int32) (m0 : ab_Mm) : Option (Int32 × ab_Mm) :=
  bb_X1_reserved_51 r6 l0 l1 l2 l3 l4 l5 (0 : Int32) m0
def bb_X1_reserved_6  : Nat → Nat → Int32 → Int32 → Int32 → Int32 → Int32 → ab_Mm → Option (Int32 × ab_Mm)
  | 0, _, _, _, _, _, _, _ => none
  | n + 1, l0, l1, l2, l3, l4, l5, m0 =>
    (ab_fR m0 1 l0 3).bind fun v1 =>
    (ab_fI m0 10 v1 3).bind fun v2 =>
    if v2 ≤ l5 then
      some (l4, m0)
    else
      (ab_fR m0 1 l0 3).bind fun v3 =>
      (ab_rc m0 10 v3).bind fun _ =>
      (dd_X10_get v3 l5 (0 : Int32) m0).bind fun q4 =>
      if q4.1 = l1 then
        (ab_fR q4.2 1 l0 3).bind fun v5 =>
        (ab_rc q4.2 10 v5).bind fun _ =>
        (dd_X10_get v5 l5 (1 : Int32) q4.2).bind fun q6 =>
        if q6.1 = l2 then
          bb_X1_reserved_51 (bb_X1_reserved_6  n) l0 l1 l2 l3 l4 l5 (1 : Int32) q6.2
        else
          bb_X1_reserved_50 (bb_X1_reserved_6  n) l0 l1 l2 l3 l4 l5 q6.2
      else
        bb_X1_reserved_50 (bb_X1_reserved_6  n) l0 l1 l2 l3 l4 l5 q4.2
def dd_X1_reserved  (l0 : Nat) (l1 : Int32) (l2 : Int32) (l3 : Int32) (m0 : ab_Mm) : Option (Int32 × ab_Mm) :=
  bb_X1_reserved_6  ab_fu l0 l1 l2 l3 (0 : Int32) (0 : Int32) m0
def dd_X2_init  (l0 : Nat) (m0 : ab_Mm) : Option (Unit × ab_Mm) :=
  (ab_na m0 1 (5 : Int32)).bind fun q1 =>
  (ab_pR q1.2 2 l0 0 q1.1).bind fun m2 =>
  (ab_na m2 1 (5 : Int32)).bind fun q3 =>
  (ab_pR q3.2 2 l0 1 q3.1).bind fun m4 =>
  (ab_pI m4 2 l0 2 (0 : Int32)).bind fun m5 =>
  (ab_nw m5 (0, 10, [none, none, some none, none])).bind fun q6 =>
  (dd_X10_init q6.1 (8 : Int32) (2 : Int32) q6.2).bind fun q7 =>
  (ab_pR q7.2 2 l0 3 q6.1).bind fun m8 =>
  some ((), m8)
def dd_X8_left  (l0 : Nat) (l1 : Nat) (l2 : Int32) (l3 : Int32) (m0 : ab_Mm) : Option (Int32 × ab_Mm) :=
  (ab_fR m0 1 l1 0).bind fun v1 =>
  (ab_rc m0 10 v1).bind fun _ =>
  (dd_X10_get v1 l2 l3 m0).bind fun q2 =>
  (ab_fR q2.2 8 l0 5).bind fun v3 =>
  (ab_rc q2.2 10 v3).bind fun _ =>
  (dd_X10_get v3 l2 l3 q2.2).bind fun q4 =>
  some ((q2.1 - q4.1), q4.2)
def bb_X2_place_183 (c_X2_place : Nat → Nat → Nat → Int32 → ab_Mm → Option (Int32 × ab_Mm)) (r81 : Nat → Nat → Nat → Int32 → Nat → Int32 → Int32 → Int32 → ab_Mm → Option (Int32 × ab_Mm)) (l0 : Nat) (l1 : Nat) (l2 : Nat) (l3 : Int32) (l5 : Nat) (l6 : Int32) (l7 : Int32) (l8 : Int32) (m0 : ab_Mm) : Option (Int32 × ab_Mm) :=
  r81 l0 l1 l2 l3 l5 l6 l7 (l8 + (1 : Int32)) m0
def bb_X2_place_81 (c_X2_place : Nat → Nat → Nat → Int32 → ab_Mm → Option (Int32 × ab_Mm)) : Nat → Nat → Nat → Nat → Int32 → Nat → Int32 → Int32 → Int32 → ab_Mm → Option (Int32 × ab_Mm)
  | 0, _, _, _, _, _, _, _, _, _ => none
  | n + 1, l0, l1, l2, l3, l5, l6, l7, l8, m0 =>
    (ab_fR m0 1 l1 0).bind fun v1 =>
    (ab_fI m0 10 v1 3).bind fun v2 =>
    if v2 ≤ l8 then
      some ((0 : Int32), m0)
    else
      (ab_rc m0 10 l5).bind fun _ =>
      (dd_X10_get l5 l8 (0 : Int32) m0).bind fun q3 =>
      if q3.1 < l6 then
        bb_X2_place_183 c_X2_place (bb_X2_place_81 c_X2_place n) l0 l1 l2 l3 l5 l6 l7 l8 q3.2
      else
        (ab_rc q3.2 10 l5).bind fun _ =>
        (dd_X10_get l5 l8 (1 : Int32) q3.2).bind fun q4 =>
        if q4.1 < l7 then
          bb_X2_place_183 c_X2_place (bb_X2_place_81 c_X2_place n) l0 l1 l2 l3 l5 l6 l7 l8 q4.2
        else
          (ab_rc q4.2 10 l5).bind fun _ =>
          (dd_X10_add l5 l8 (0 : Int32) (-l6) q4.2).bind fun q5 =>
          (ab_rc q5.2 10 l5).bind fun _ =>
          (dd_X10_add l5 l8 (1 : Int32) (-l7) q5.2).bind fun q6 =>
          (ab_fR q6.2 2 l0 1).bind fun v7 =>
          (ab_st q6.2 1 v7 l3 l8).bind fun m8 =>
          (c_X2_place l0 l1 l2 (l3 + (1 : Int32)) m8).bind fun q9 =>
          if q9.1 = 0 then
            (ab_rc q9.2 10 l5).bind fun _ =>
            (dd_X10_add l5 l8 (0 : Int32) l6 q9.2).bind fun q10 =>
            (ab_rc q10.2 10 l5).bind fun _ =>
            (dd_X10_add l5 l8 (1 : Int32) l7 q10.2).bind fun q11 =>
            bb_X2_place_183 c_X2_place (bb_X2_place_81 c_X2_place n) l0 l1 l2 l3 l5 l6 l7 l8 q11.2
          else
            some ((1 : Int32), q9.2)
def bb_X2_place_30 (c_X2_place : Nat → Nat → Nat → Int32 → ab_Mm → Option (Int32 × ab_Mm))  (m0 : ab_Mm) : Option (Int32 × ab_Mm) :=
  some ((1 : Int32), m0)
def st_X2_place (c_X2_place : Nat → Nat → Nat → Int32 → ab_Mm → Option (Int32 × ab_Mm)) (l0 : Nat) (l1 : Nat) (l2 : Nat) (l3 : Int32) (m0 : ab_Mm) : Option (Int32 × ab_Mm) :=
  if l3 < 0 then
    bb_X2_place_30 c_X2_place  m0
  else
    (ab_fI m0 2 l0 2).bind fun v1 =>
    if v1 ≤ l3 then
      bb_X2_place_30 c_X2_place  m0
    else
      (ab_fR m0 2 l0 0).bind fun v2 =>
      (ab_len m0 1 v2).bind fun v3 =>
      if v3 ≤ l3 then
        bb_X2_place_30 c_X2_place  m0
      else
        (ab_fR m0 2 l0 1).bind fun v4 =>
        (ab_len m0 1 v4).bind fun v5 =>
        if l3 < v5 then
          (ab_fR m0 8 l2 2).bind fun v6 =>
          (ab_fR m0 2 l0 0).bind fun v7 =>
          (ab_ld m0 1 v7 l3).bind fun v8 =>
          (ab_rc m0 10 v6).bind fun _ =>
          (dd_X10_get v6 v8 (1 : Int32) m0).bind fun q9 =>
          (ab_fR q9.2 2 l0 3).bind fun v10 =>
          (ab_fR q9.2 1 l1 1).bind fun v11 =>
          (ab_rc q9.2 10 v11).bind fun _ =>
          (dd_X10_get v11 q9.1 (0 : Int32) q9.2).bind fun q12 =>
          (ab_fR q12.2 1 l1 1).bind fun v13 =>
          (ab_rc q12.2 10 v13).bind fun _ =>
          (dd_X10_get v13 q9.1 (1 : Int32) q12.2).bind fun q14 =>
          bb_X2_place_81 c_X2_place ab_fu l0 l1 l2 l3 v10 q12.1 q14.1 (0 : Int32) q14.2
        else
          bb_X2_place_30 c_X2_place  m0
def dd_X2_place : Nat → Nat → Nat → Nat → Int32 → ab_Mm → Option (Int32 × ab_Mm)
  | 0, _, _, _, _, _ => none
  | n + 1, a0, a1, a2, a3, m => st_X2_place (dd_X2_place n) a0 a1 a2 a3 m
def bb_X2_plan_164 (r99 : Nat → Nat → Nat → Int32 → Int32 → ab_Mm → Option (Int32 × ab_Mm)) (l0 : Nat) (l1 : Nat) (l2 : Nat) (l3 : Int32) (l4 : Int32) (s0 : Nat) (s1 : Int32) (s2 : Int32) (s3 : Int32) (m0 : ab_Mm) : Option (Int32 × ab_Mm) :=
  (ab_rc m0 10 s0).bind fun _ =>
  (dd_X10_set s0 s1 s2 s3 m0).bind fun q1 =>
  r99 l0 l1 l2 l3 (l4 + (1 : Int32)) q1.2
def bb_X2_plan_136 (r99 : Nat → Nat → Nat → Int32 → Int32 → ab_Mm → Option (Int32 × ab_Mm)) (l0 : Nat) (l1 : Nat) (l2 : Nat) (l3 : Int32) (l4 : Int32) (s0 : Nat) (s1 : Int32) (s2 : Int32) (s3 : Int32) (m0 : ab_Mm) : Option (Int32 × ab_Mm) :=
  (ab_rc m0 10 s0).bind fun _ =>
  (dd_X10_set s0 s1 s2 s3 m0).bind fun q1 =>
  (ab_fR q1.2 2 l0 3).bind fun v2 =>
  if l4 = l3 then
    bb_X2_plan_164 r99 l0 l1 l2 l3 l4 v2 l4 (1 : Int32) (0 : Int32) q1.2
  else
    (ab_rc q1.2 8 l2).bind fun _ =>
    (dd_X8_left l2 l1 l4 (1 : Int32) q1.2).bind fun q3 =>
    bb_X2_plan_164 r99 l0 l1 l2 l3 l4 v2 l4 (1 : Int32) q3.1 q3.2
def bb_X2_plan_99  : Nat → Nat → Nat → Nat → Int32 → Int32 → ab_Mm → Option (Int32 × ab_Mm)
  | 0, _, _, _, _, _, _ => none
  | n + 1, l0, l1, l2, l3, l4, m0 =>
    (ab_fR m0 1 l1 0).bind fun v1 =>
    (ab_fI m0 10 v1 3).bind fun v2 =>
    if v2 ≤ l4 then
      (dd_X2_place 30 l0 l1 l2 (0 : Int32) m0).bind fun q3 =>
      if ¬ (q3.1 &&& 1 = q3.1) then none else
      some (q3.1, q3.2)
    else
      (ab_fR m0 2 l0 3).bind fun v4 =>
      if l4 = l3 then
        bb_X2_plan_136 (bb_X2_plan_99  n) l0 l1 l2 l3 l4 v4 l4 (0 : Int32) (0 : Int32) m0
      else
        (ab_rc m0 8 l2).bind fun _ =>
        (dd_X8_left l2 l1 l4 (0 : Int32) m0).bind fun q5 =>
        bb_X2_plan_136 (bb_X2_plan_99  n) l0 l1 l2 l3 l4 v4 l4 (0 : Int32) q5.1 q5.2
def bb_X2_plan_90 (r8 : Nat → Nat → Nat → Int32 → Int32 → ab_Mm → Option (Int32 × ab_Mm)) (l0 : Nat) (l1 : Nat) (l2 : Nat) (l3 : Int32) (l4 : Int32) (m0 : ab_Mm) : Option (Int32 × ab_Mm) :=
  r8 l0 l1 l2 l3 (l4 + (1 : Int32)) m0
def bb_X2_plan_43 (r8 : Nat → Nat → Nat → Int32 → Int32 → ab_Mm → Option (Int32 × ab_Mm)) (l0 : Nat) (l1 : Nat) (l2 : Nat) (l3 : Int32) (l4 : Int32) (s0 : Int32) (m0 : ab_Mm) : Option (Int32 × ab_Mm) :=
  if s0 = 0 then
    bb_X2_plan_90 r8 l0 l1 l2 l3 l4 m0
  else
    (ab_fI m0 2 l0 2).bind fun v1 =>
    if v1 < 0 then
      bb_X2_plan_90 r8 l0 l1 l2 l3 l4 m0
    else
      (ab_fI m0 2 l0 2).bind fun v2 =>
      (ab_fR m0 2 l0 0).bind fun v3 =>
      (ab_len m0 1 v3).bind fun v4 =>
      if v4 ≤ v2 then
        bb_X2_plan_90 r8 l0 l1 l2 l3 l4 m0
      else
        (ab_fR m0 2 l0 0).bind fun v5 =>
        (ab_fI m0 2 l0 2).bind fun v6 =>
        (ab_st m0 1 v5 v6 l4).bind fun m7 =>
        (ab_fI m7 2 l0 2).bind fun v8 =>
        (ab_pI m7 2 l0 2 (v8 + (1 : Int32))).bind fun m9 =>
        bb_X2_plan_90 r8 l0 l1 l2 l3 l4 m9
def bb_X2_plan_42 (r8 : Nat → Nat → Nat → Int32 → Int32 → ab_Mm → Option (Int32 × ab_Mm)) (l0 : Nat) (l1 : Nat) (l2 : Nat) (l3 : Int32) (l4 : Int32) (m0 : ab_Mm) : Option (Int32 × ab_Mm) :=
  bb_X2_plan_43 r8 l0 l1 l2 l3 l4 (0 : Int32) m0
def bb_X2_plan_8  : Nat → Nat → Nat → Nat → Int32 → Int32 → ab_Mm → Option (Int32 × ab_Mm)
  | 0, _, _, _, _, _, _ => none
  | n + 1, l0, l1, l2, l3, l4, m0 =>
    if (12 : Int32) ≤ l4 then
      bb_X2_plan_99  ab_fu l0 l1 l2 l3 (0 : Int32) m0
    else
      (ab_rc m0 8 l2).bind fun _ =>
      (dd_X8_runs l2 l4 m0).bind fun q1 =>
      if q1.1 = 0 then
        bb_X2_plan_42 (bb_X2_plan_8  n) l0 l1 l2 l3 l4 q1.2
      else
        (ab_fR q1.2 8 l2 2).bind fun v2 =>
        (ab_rc q1.2 10 v2).bind fun _ =>
        (dd_X10_get v2 l4 (3 : Int32) q1.2).bind fun q3 =>
        if q3.1 = l3 then
          bb_X2_plan_43 (bb_X2_plan_8  n) l0 l1 l2 l3 l4 (1 : Int32) q3.2
        else
          bb_X2_plan_42 (bb_X2_plan_8  n) l0 l1 l2 l3 l4 q3.2
def dd_X2_plan  (l0 : Nat) (l1 : Nat) (l2 : Nat) (l3 : Int32) (m0 : ab_Mm) : Option (Int32 × ab_Mm) :=
  (ab_pI m0 2 l0 2 (0 : Int32)).bind fun m1 =>
  bb_X2_plan_8  ab_fu l0 l1 l2 l3 (0 : Int32) m1
def bb_X2_targetOf_51   (m0 : ab_Mm) : Option (Int32 × ab_Mm) :=
  some ((-1 : Int32), m0)
def bb_X2_targetOf_2  : Nat → Nat → Int32 → Int32 → ab_Mm → Option (Int32 × ab_Mm)
  | 0, _, _, _, _ => none
  | n + 1, l0, l1, l2, m0 =>
    (ab_fI m0 2 l0 2).bind fun v1 =>
    if v1 ≤ l2 then
      bb_X2_targetOf_51   m0
    else
      (ab_fR m0 2 l0 0).bind fun v2 =>
      (ab_len m0 1 v2).bind fun v3 =>
      if v3 ≤ l2 then
        bb_X2_targetOf_51   m0
      else
        (ab_fR m0 2 l0 1).bind fun v4 =>
        (ab_len m0 1 v4).bind fun v5 =>
        if v5 ≤ l2 then
          bb_X2_targetOf_51   m0
        else
          (ab_fR m0 2 l0 0).bind fun v6 =>
          (ab_ld m0 1 v6 l2).bind fun v7 =>
          if v7 = l1 then
            (ab_fR m0 2 l0 1).bind fun v8 =>
            (ab_ld m0 1 v8 l2).bind fun v9 =>
            some (v9, m0)
          else
            bb_X2_targetOf_2  n l0 l1 (l2 + (1 : Int32)) m0
def dd_X2_targetOf  (l0 : Nat) (l1 : Int32) (m0 : ab_Mm) : Option (Int32 × ab_Mm) :=
  bb_X2_targetOf_2  ab_fu l0 l1 (0 : Int32) m0
def bb_X9_apply_55  (s0 : Int32) (m0 : ab_Mm) : Option (Int32 × ab_Mm) :=
  some (s0, m0)
def bb_X9_apply_44  (l1 : Int32) (l2 : Int32) (m0 : ab_Mm) : Option (Int32 × ab_Mm) :=
  if l2 = 0 then
    bb_X9_apply_55  (0 : Int32) m0
  else
    if l2 = 0 then none else
    bb_X9_apply_55  (l1 / l2) m0
def dd_X9_apply  (l0 : Int32) (l1 : Int32) (l2 : Int32) (m0 : ab_Mm) : Option (Int32 × ab_Mm) :=
  if l0 = (42 : Int32) then
    some ((l1 * l2), m0)
  else if l0 = (43 : Int32) then
    some ((l1 + l2), m0)
  else if l0 = (44 : Int32) then
    bb_X9_apply_44  l1 l2 m0
  else if l0 = (45 : Int32) then
    some ((l1 - l2), m0)
  else 
    bb_X9_apply_44  l1 l2 m0
def dd_X9_operand  (l0 : Int32) (l1 : Nat) (l2 : Int32) (l3 : Int32) (m0 : ab_Mm) : Option (Int32 × ab_Mm) :=
  if l0 = (-4 : Int32) then
    some (l3, m0)
  else if l0 = (-3 : Int32) then
    (ab_rc m0 10 l1).bind fun _ =>
    (dd_X10_get l1 l2 (2 : Int32) m0).bind fun q1 =>
    some (q1.1, q1.2)
  else if l0 = (-2 : Int32) then
    (ab_rc m0 10 l1).bind fun _ =>
    (dd_X10_get l1 l2 (1 : Int32) m0).bind fun q2 =>
    some (q2.1, q2.2)
  else if l0 = (-1 : Int32) then
    (ab_rc m0 10 l1).bind fun _ =>
    (dd_X10_get l1 l2 (0 : Int32) m0).bind fun q3 =>
    some (q3.1, q3.2)
  else 
    some (l0, m0)
def bb_X9_value_146  (s0 : Int32) (m0 : ab_Mm) : Option (Int32 × ab_Mm) :=
  some (s0, m0)
def bb_X9_value_130  (l0 : Nat) (l4 : Int32) (m0 : ab_Mm) : Option (Int32 × ab_Mm) :=
  if l4 = (1 : Int32) then
    (ab_fR m0 9 l0 2).bind fun v1 =>
    (ab_ld m0 1 v1 (0 : Int32)).bind fun v2 =>
    bb_X9_value_146  v2 m0
  else
    bb_X9_value_146  (0 : Int32) m0
def bb_X9_value_124 (r6 : Nat → Nat → Int32 → Int32 → Int32 → Int32 → ab_Mm → Option (Int32 × ab_Mm)) (l0 : Nat) (l1 : Nat) (l2 : Int32) (l3 : Int32) (l4 : Int32) (l5 : Int32) (m0 : ab_Mm) : Option (Int32 × ab_Mm) :=
  r6 l0 l1 l2 l3 l4 (l5 + (1 : Int32)) m0
def bb_X9_value_6  : Nat → Nat → Nat → Int32 → Int32 → Int32 → Int32 → ab_Mm → Option (Int32 × ab_Mm)
  | 0, _, _, _, _, _, _, _ => none
  | n + 1, l0, l1, l2, l3, l4, l5, m0 =>
    (ab_fI m0 9 l0 1).bind fun v1 =>
    if v1 ≤ l5 then
      bb_X9_value_130  l0 l4 m0
    else
      (ab_fR m0 9 l0 0).bind fun v2 =>
      (ab_len m0 1 v2).bind fun v3 =>
      if v3 ≤ l5 then
        bb_X9_value_130  l0 l4 m0
      else
        (ab_fR m0 9 l0 0).bind fun v4 =>
        (ab_ld m0 1 v4 l5).bind fun v5 =>
        if (-4 : Int32) ≤ v5 then
          (ab_fR m0 9 l0 2).bind fun v6 =>
          (ab_len m0 1 v6).bind fun v7 =>
          if v7 ≤ l4 then
            bb_X9_value_124 (bb_X9_value_6  n) l0 l1 l2 l3 l4 l5 m0
          else
            (ab_fR m0 9 l0 2).bind fun v8 =>
            (dd_X9_operand v5 l1 l2 l3 m0).bind fun q9 =>
            (ab_st q9.2 1 v8 l4 q9.1).bind fun m10 =>
            bb_X9_value_124 (bb_X9_value_6  n) l0 l1 l2 l3 (l4 + (1 : Int32)) l5 m10
        else
          if l4 < (2 : Int32) then
            bb_X9_value_124 (bb_X9_value_6  n) l0 l1 l2 l3 l4 l5 m0
          else
            (ab_fR m0 9 l0 2).bind fun v11 =>
            (ab_len m0 1 v11).bind fun v12 =>
            if v12 < l4 then
              bb_X9_value_124 (bb_X9_value_6  n) l0 l1 l2 l3 l4 l5 m0
            else
              (ab_fR m0 9 l0 2).bind fun v13 =>
              (ab_fR m0 9 l0 2).bind fun v14 =>
              (ab_ld m0 1 v14 (l4 - (2 : Int32))).bind fun v15 =>
              (ab_fR m0 9 l0 2).bind fun v16 =>
              (ab_ld m0 1 v16 (l4 - (1 : Int32))).bind fun v17 =>
              (dd_X9_apply (-v5) v15 v17 m0).bind fun q18 =>
              (ab_st q18.2 1 v13 (l4 - (2 : Int32)) q18.1).bind fun m19 =>
              bb_X9_value_124 (bb_X9_value_6  n) l0 l1 l2 l3 (l4 + (-1 : Int32)) l5 m19
def dd_X9_value  (l0 : Nat) (l1 : Nat) (l2 : Int32) (l3 : Int32) (m0 : ab_Mm) : Option (Int32 × ab_Mm) :=
  bb_X9_value_6  ab_fu l0 l1 l2 l3 (0 : Int32) (0 : Int32) m0
def dd_X8_moveCost  (l0 : Nat) (l1 : Nat) (l2 : Int32) (m0 : ab_Mm) : Option (Int32 × ab_Mm) :=
  (ab_fI m0 8 l0 0).bind fun v1 =>
  (ab_fR m0 8 l0 2).bind fun v2 =>
  (ab_rc m0 10 v2).bind fun _ =>
  (dd_X10_get v2 l2 (5 : Int32) m0).bind fun q3 =>
  (ab_fR q3.2 1 l1 5).bind fun v4 =>
  (ab_fR q3.2 1 l1 1).bind fun v5 =>
  (ab_fR q3.2 8 l0 2).bind fun v6 =>
  (ab_rc q3.2 10 v6).bind fun _ =>
  (dd_X10_get v6 l2 (1 : Int32) q3.2).bind fun q7 =>
  (ab_rc q7.2 9 v4).bind fun _ =>
  (dd_X9_value v4 v5 q7.1 (v1 - q3.1) q7.2).bind fun q8 =>
  some ((if (0 : Int32) < q8.1 then q8.1 else (0 : Int32)), q8.2)
def dd_X8_load  (l0 : Nat) (l1 : Nat) (l2 : Int32) (l3 : Int32) (m0 : ab_Mm) : Option (Unit × ab_Mm) :=
  (ab_fR m0 8 l0 2).bind fun v1 =>
  (ab_rc m0 10 v1).bind fun _ =>
  (dd_X10_get v1 l2 (1 : Int32) m0).bind fun q2 =>
  (ab_fR q2.2 8 l0 2).bind fun v3 =>
  (ab_rc q2.2 10 v3).bind fun _ =>
  (dd_X10_get v3 l2 (3 : Int32) q2.2).bind fun q4 =>
  (ab_fR q4.2 8 l0 5).bind fun v5 =>
  (ab_fR q4.2 1 l1 1).bind fun v6 =>
  (ab_rc q4.2 10 v6).bind fun _ =>
  (dd_X10_get v6 q2.1 (0 : Int32) q4.2).bind fun q7 =>
  (ab_rc q7.2 10 v5).bind fun _ =>
  (dd_X10_add v5 q4.1 (0 : Int32) (l3 * q7.1) q7.2).bind fun q8 =>
  (ab_fR q8.2 8 l0 5).bind fun v9 =>
  (ab_fR q8.2 1 l1 1).bind fun v10 =>
  (ab_rc q8.2 10 v10).bind fun _ =>
  (dd_X10_get v10 q2.1 (1 : Int32) q8.2).bind fun q11 =>
  (ab_rc q11.2 10 v9).bind fun _ =>
  (dd_X10_add v9 q4.1 (1 : Int32) (l3 * q11.1) q11.2).bind fun q12 =>
  some ((), q12.2)
def dd_X8_moveTo  (l0 : Nat) (l1 : Nat) (l2 : Int32) (l3 : Int32) (m0 : ab_Mm) : Option (Int32 × ab_Mm) :=
  (ab_rc m0 8 l0).bind fun _ =>
  (dd_X8_moveCost l0 l1 l2 m0).bind fun q1 =>
  (ab_rc q1.2 8 l0).bind fun _ =>
  (dd_X8_load l0 l1 l2 (-1 : Int32) q1.2).bind fun q2 =>
  (ab_fR q2.2 8 l0 2).bind fun v3 =>
  (ab_rc q2.2 10 v3).bind fun _ =>
  (dd_X10_set v3 l2 (3 : Int32) l3 q2.2).bind fun q4 =>
  (ab_rc q4.2 8 l0).bind fun _ =>
  (dd_X8_load l0 l1 l2 (1 : Int32) q4.2).bind fun q5 =>
  (ab_fR q5.2 8 l0 2).bind fun v6 =>
  (ab_rc q5.2 10 v6).bind fun _ =>
  (dd_X10_get v6 l2 (0 : Int32) q5.2).bind fun q7 =>
  (ab_rc q7.2 8 l0).bind fun _ =>
  (dd_X8_charge l0 q7.1 q1.1 q7.2).bind fun q8 =>
  some (q1.1, q8.2)
def bb_X2_carryOut_52   (m0 : ab_Mm) : Option (Unit × ab_Mm) :=
  some ((), m0)
def bb_X2_carryOut_2  : Nat → Nat → Nat → Nat → Int32 → ab_Mm → Option (Unit × ab_Mm)
  | 0, _, _, _, _, _ => none
  | n + 1, l0, l1, l2, l3, m0 =>
    (ab_fI m0 2 l0 2).bind fun v1 =>
    if v1 ≤ l3 then
      bb_X2_carryOut_52   m0
    else
      (ab_fR m0 2 l0 0).bind fun v2 =>
      (ab_len m0 1 v2).bind fun v3 =>
      if v3 ≤ l3 then
        bb_X2_carryOut_52   m0
      else
        (ab_fR m0 2 l0 1).bind fun v4 =>
        (ab_len m0 1 v4).bind fun v5 =>
        if v5 ≤ l3 then
          bb_X2_carryOut_52   m0
        else
          (ab_fR m0 2 l0 0).bind fun v6 =>
          (ab_ld m0 1 v6 l3).bind fun v7 =>
          (ab_fR m0 2 l0 1).bind fun v8 =>
          (ab_ld m0 1 v8 l3).bind fun v9 =>
          (ab_rc m0 8 l2).bind fun _ =>
          (dd_X8_moveTo l2 l1 v7 v9 m0).bind fun q10 =>
          bb_X2_carryOut_2  n l0 l1 l2 (l3 + (1 : Int32)) q10.2
def dd_X2_carryOut  (l0 : Nat) (l1 : Nat) (l2 : Nat) (m0 : ab_Mm) : Option (Unit × ab_Mm) :=
  bb_X2_carryOut_2  ab_fu l0 l1 l2 (0 : Int32) m0
def dd_X3_init  (l0 : Nat) (m0 : ab_Mm) : Option (Unit × ab_Mm) :=
  (ab_nw m0 (0, 10, [none, none, some none, none])).bind fun q1 =>
  (dd_X10_init q1.1 (12 : Int32) (4 : Int32) q1.2).bind fun q2 =>
  (ab_pR q2.2 3 l0 0 q1.1).bind fun m3 =>
  (ab_pI m3 3 l0 1 (-1 : Int32)).bind fun m4 =>
  (ab_pI m4 3 l0 2 (0 : Int32)).bind fun m5 =>
  some ((), m5)
def bb_X10_shift_59   (m0 : ab_Mm) : Option (Unit × ab_Mm) :=
  some ((), m0)
def dd_X10_shift  (l0 : Nat) (l1 : Int32) (l2 : Int32) (l3 : Int32) (m0 : ab_Mm) : Option (Unit × ab_Mm) :=
  (ab_fI m0 10 l0 0).bind fun v1 =>
  if l1 < 0 then
    bb_X10_shift_59   m0
  else
    if l2 < 0 then
      bb_X10_shift_59   m0
    else
      if l3 ≤ 0 then
        bb_X10_shift_59   m0
      else
        if (v1 - (if l1 < l2 then l2 else l1)) < l3 then
          bb_X10_shift_59   m0
        else
          (ab_fR m0 10 l0 2).bind fun v2 =>
          (ab_fI m0 10 l0 1).bind fun v3 =>
          (ab_fR m0 10 l0 2).bind fun v4 =>
          (ab_fI m0 10 l0 1).bind fun v5 =>
          (ab_fI m0 10 l0 1).bind fun v6 =>
          (ab_cpI m0 v2 (l1 * v3) v4 (l2 * v5) (l3 * v6)).bind fun m7 =>
          bb_X10_shift_59   m7
def bb_X10_insertRow_47   (m0 : ab_Mm) : Option (Unit × ab_Mm) :=
  some ((), m0)
def dd_X10_insertRow  (l0 : Nat) (l1 : Int32) (m0 : ab_Mm) : Option (Unit × ab_Mm) :=
  if l1 < 0 then
    bb_X10_insertRow_47   m0
  else
    (ab_fI m0 10 l0 3).bind fun v1 =>
    if v1 < l1 then
      bb_X10_insertRow_47   m0
    else
      (ab_fI m0 10 l0 3).bind fun v2 =>
      (ab_fI m0 10 l0 0).bind fun v3 =>
      if v3 ≤ v2 then
        bb_X10_insertRow_47   m0
      else
        (ab_fI m0 10 l0 3).bind fun v4 =>
        (ab_rc m0 10 l0).bind fun _ =>
        (dd_X10_shift l0 l1 (l1 + (1 : Int32)) (v4 - l1) m0).bind fun q5 =>
        (ab_fI q5.2 10 l0 3).bind fun v6 =>
        (ab_pI q5.2 10 l0 3 (v6 + (1 : Int32))).bind fun m7 =>
        bb_X10_insertRow_47   m7
def dd_X3_addSpot  (l0 : Nat) (l1 : Nat) (l2 : Nat) (l3 : Int32) (m0 : ab_Mm) : Option (Unit × ab_Mm) :=
  (ab_fR m0 8 l2 2).bind fun v1 =>
  (ab_rc m0 10 v1).bind fun _ =>
  (dd_X10_get v1 l3 (1 : Int32) m0).bind fun q2 =>
  (ab_fR q2.2 3 l0 0).bind fun v3 =>
  (ab_fI q2.2 10 v3 3).bind fun v4 =>
  (ab_fR q2.2 3 l0 0).bind fun v5 =>
  (ab_rc q2.2 10 v5).bind fun _ =>
  (dd_X10_insertRow v5 v4 q2.2).bind fun q6 =>
  (ab_fR q6.2 3 l0 0).bind fun v7 =>
  (ab_fR q6.2 1 l1 1).bind fun v8 =>
  (ab_rc q6.2 10 v8).bind fun _ =>
  (dd_X10_get v8 q2.1 (0 : Int32) q6.2).bind fun q9 =>
  (ab_rc q9.2 10 v7).bind fun _ =>
  (dd_X10_set v7 v4 (0 : Int32) q9.1 q9.2).bind fun q10 =>
  (ab_fR q10.2 3 l0 0).bind fun v11 =>
  (ab_fR q10.2 1 l1 1).bind fun v12 =>
  (ab_rc q10.2 10 v12).bind fun _ =>
  (dd_X10_get v12 q2.1 (1 : Int32) q10.2).bind fun q13 =>
  (ab_rc q13.2 10 v11).bind fun _ =>
  (dd_X10_set v11 v4 (1 : Int32) q13.1 q13.2).bind fun q14 =>
  (ab_fR q14.2 3 l0 0).bind fun v15 =>
  (ab_fR q14.2 8 l2 2).bind fun v16 =>
  (ab_rc q14.2 10 v16).bind fun _ =>
  (dd_X10_get v16 l3 (2 : Int32) q14.2).bind fun q17 =>
  (ab_rc q17.2 10 v15).bind fun _ =>
  (dd_X10_set v15 v4 (2 : Int32) q17.1 q17.2).bind fun q18 =>
  (ab_fR q18.2 3 l0 0).bind fun v19 =>
  (ab_rc q18.2 10 v19).bind fun _ =>
  (dd_X10_set v19 v4 (3 : Int32) l3 q18.2).bind fun q20 =>
  some ((), q20.2)
def dd_J6_bitCount_0f7a4  (l0 : Int32) (m0 : ab_Mm) : Option (Int32 × ab_Mm) :=
  some (((((((((l0 - (((l0.toUInt32 >>> ((1 : Int32).toUInt32 &&& Int32.toUInt32 31)).toInt32) &&& (1431655765 : Int32))) &&& (858993459 : Int32)) + ((((l0 - (((l0.toUInt32 >>> ((1 : Int32).toUInt32 &&& Int32.toUInt32 31)).toInt32) &&& (1431655765 : Int32))).toUInt32 >>> ((2 : Int32).toUInt32 &&& Int32.toUInt32 31)).toInt32) &&& (858993459 : Int32))) + (((((l0 - (((l0.toUInt32 >>> ((1 : Int32).toUInt32 &&& Int32.toUInt32 31)).toInt32) &&& (1431655765 : Int32))) &&& (858993459 : Int32)) + ((((l0 - (((l0.toUInt32 >>> ((1 : Int32).toUInt32 &&& Int32.toUInt32 31)).toInt32) &&& (1431655765 : Int32))).toUInt32 >>> ((2 : Int32).toUInt32 &&& Int32.toUInt32 31)).toInt32) &&& (858993459 : Int32))).toUInt32 >>> ((4 : Int32).toUInt32 &&& Int32.toUInt32 31)).toInt32)) &&& (252645135 : Int32)) + (((((((l0 - (((l0.toUInt32 >>> ((1 : Int32).toUInt32 &&& Int32.toUInt32 31)).toInt32) &&& (1431655765 : Int32))) &&& (858993459 : Int32)) + ((((l0 - (((l0.toUInt32 >>> ((1 : Int32).toUInt32 &&& Int32.toUInt32 31)).toInt32) &&& (1431655765 : Int32))).toUInt32 >>> ((2 : Int32).toUInt32 &&& Int32.toUInt32 31)).toInt32) &&& (858993459 : Int32))) + (((((l0 - (((l0.toUInt32 >>> ((1 : Int32).toUInt32 &&& Int32.toUInt32 31)).toInt32) &&& (1431655765 : Int32))) &&& (858993459 : Int32)) + ((((l0 - (((l0.toUInt32 >>> ((1 : Int32).toUInt32 &&& Int32.toUInt32 31)).toInt32) &&& (1431655765 : Int32))).toUInt32 >>> ((2 : Int32).toUInt32 &&& Int32.toUInt32 31)).toInt32) &&& (858993459 : Int32))).toUInt32 >>> ((4 : Int32).toUInt32 &&& Int32.toUInt32 31)).toInt32)) &&& (252645135 : Int32)).toUInt32 >>> ((8 : Int32).toUInt32 &&& Int32.toUInt32 31)).toInt32)) + ((((((((l0 - (((l0.toUInt32 >>> ((1 : Int32).toUInt32 &&& Int32.toUInt32 31)).toInt32) &&& (1431655765 : Int32))) &&& (858993459 : Int32)) + ((((l0 - (((l0.toUInt32 >>> ((1 : Int32).toUInt32 &&& Int32.toUInt32 31)).toInt32) &&& (1431655765 : Int32))).toUInt32 >>> ((2 : Int32).toUInt32 &&& Int32.toUInt32 31)).toInt32) &&& (858993459 : Int32))) + (((((l0 - (((l0.toUInt32 >>> ((1 : Int32).toUInt32 &&& Int32.toUInt32 31)).toInt32) &&& (1431655765 : Int32))) &&& (858993459 : Int32)) + ((((l0 - (((l0.toUInt32 >>> ((1 : Int32).toUInt32 &&& Int32.toUInt32 31)).toInt32) &&& (1431655765 : Int32))).toUInt32 >>> ((2 : Int32).toUInt32 &&& Int32.toUInt32 31)).toInt32) &&& (858993459 : Int32))).toUInt32 >>> ((4 : Int32).toUInt32 &&& Int32.toUInt32 31)).toInt32)) &&& (252645135 : Int32)) + (((((((l0 - (((l0.toUInt32 >>> ((1 : Int32).toUInt32 &&& Int32.toUInt32 31)).toInt32) &&& (1431655765 : Int32))) &&& (858993459 : Int32)) + ((((l0 - (((l0.toUInt32 >>> ((1 : Int32).toUInt32 &&& Int32.toUInt32 31)).toInt32) &&& (1431655765 : Int32))).toUInt32 >>> ((2 : Int32).toUInt32 &&& Int32.toUInt32 31)).toInt32) &&& (858993459 : Int32))) + (((((l0 - (((l0.toUInt32 >>> ((1 : Int32).toUInt32 &&& Int32.toUInt32 31)).toInt32) &&& (1431655765 : Int32))) &&& (858993459 : Int32)) + ((((l0 - (((l0.toUInt32 >>> ((1 : Int32).toUInt32 &&& Int32.toUInt32 31)).toInt32) &&& (1431655765 : Int32))).toUInt32 >>> ((2 : Int32).toUInt32 &&& Int32.toUInt32 31)).toInt32) &&& (858993459 : Int32))).toUInt32 >>> ((4 : Int32).toUInt32 &&& Int32.toUInt32 31)).toInt32)) &&& (252645135 : Int32)).toUInt32 >>> ((8 : Int32).toUInt32 &&& Int32.toUInt32 31)).toInt32)).toUInt32 >>> ((16 : Int32).toUInt32 &&& Int32.toUInt32 31)).toInt32)) &&& (63 : Int32)), m0)
def bb_X3_keep_55   (m0 : ab_Mm) : Option (Unit × ab_Mm) :=
  some ((), m0)
def bb_X3_keep_45  (l0 : Nat) (l1 : Int32) (l2 : Int32) (m0 : ab_Mm) : Option (Unit × ab_Mm) :=
  (ab_pI m0 3 l0 1 l1).bind fun m1 =>
  (ab_pI m1 3 l0 2 l2).bind fun m2 =>
  bb_X3_keep_55   m2
def dd_X3_keep  (l0 : Nat) (l1 : Int32) (l2 : Int32) (m0 : ab_Mm) : Option (Unit × ab_Mm) :=
  (ab_fI m0 3 l0 1).bind fun v1 =>
  (dd_J6_bitCount_0f7a4 v1 m0).bind fun q2 =>
  (dd_J6_bitCount_0f7a4 l1 q2.2).bind fun q3 =>
  (ab_fI q3.2 3 l0 1).bind fun v4 =>
  if v4 = (-1 : Int32) then
    bb_X3_keep_45  l0 l1 l2 q3.2
  else
    (ab_fI q3.2 3 l0 2).bind fun v5 =>
    if l2 < v5 then
      bb_X3_keep_45  l0 l1 l2 q3.2
    else
      if 0 < (q2.1 - q3.1) then
        bb_X3_keep_45  l0 l1 l2 q3.2
      else
        if (q2.1 - q3.1) = 0 then
          (ab_fI q3.2 3 l0 1).bind fun v6 =>
          if v6 ≤ l1 then
            bb_X3_keep_55   q3.2
          else
            bb_X3_keep_45  l0 l1 l2 q3.2
        else
          bb_X3_keep_55   q3.2
def bb_X10_has_17  (s0 : Int32) (m0 : ab_Mm) : Option (Int32 × ab_Mm) :=
  if ¬ (s0 &&& 1 = s0) then none else
  some (s0, m0)
def bb_X10_has_16   (m0 : ab_Mm) : Option (Int32 × ab_Mm) :=
  bb_X10_has_17  (0 : Int32) m0
def dd_X10_has  (l0 : Nat) (l1 : Int32) (m0 : ab_Mm) : Option (Int32 × ab_Mm) :=
  if l1 < 0 then
    bb_X10_has_16   m0
  else
    (ab_fI m0 10 l0 3).bind fun v1 =>
    if v1 ≤ l1 then
      bb_X10_has_16   m0
    else
      bb_X10_has_17  (1 : Int32) m0
def bb_X3_choose_27 (c_X3_choose : Nat → Int32 → Int32 → Int32 → Int32 → Int32 → ab_Mm → Option (Unit × ab_Mm)) (l0 : Nat) (l1 : Int32) (l2 : Int32) (l3 : Int32) (l4 : Int32) (l5 : Int32) (m0 : ab_Mm) : Option (Unit × ab_Mm) :=
  (ab_fR m0 3 l0 0).bind fun v1 =>
  (ab_rc m0 10 v1).bind fun _ =>
  (dd_X10_has v1 l1 m0).bind fun q2 =>
  if q2.1 = 0 then
    some ((), q2.2)
  else
    (ab_rc q2.2 10 v1).bind fun _ =>
    (dd_X10_get v1 l1 (3 : Int32) q2.2).bind fun q3 =>
    (ab_rc q3.2 10 v1).bind fun _ =>
    (dd_X10_get v1 l1 (0 : Int32) q3.2).bind fun q4 =>
    (ab_rc q4.2 10 v1).bind fun _ =>
    (dd_X10_get v1 l1 (1 : Int32) q4.2).bind fun q5 =>
    (ab_rc q5.2 10 v1).bind fun _ =>
    (dd_X10_get v1 l1 (2 : Int32) q5.2).bind fun q6 =>
    (c_X3_choose l0 (l1 + (1 : Int32)) (l2 ||| ((1 : Int32) <<< (q3.1 &&& 31))) (l3 - q4.1) (l4 - q5.1) (l5 + q6.1) q6.2).bind fun q7 =>
    (c_X3_choose l0 (l1 + (1 : Int32)) l2 l3 l4 l5 q7.2).bind fun q8 =>
    some ((), q8.2)
def st_X3_choose (c_X3_choose : Nat → Int32 → Int32 → Int32 → Int32 → Int32 → ab_Mm → Option (Unit × ab_Mm)) (l0 : Nat) (l1 : Int32) (l2 : Int32) (l3 : Int32) (l4 : Int32) (l5 : Int32) (m0 : ab_Mm) : Option (Unit × ab_Mm) :=
  (ab_fI m0 3 l0 2).bind fun v1 =>
  if l5 ≤ v1 then
    if 0 < l3 then
      bb_X3_choose_27 c_X3_choose l0 l1 l2 l3 l4 l5 m0
    else
      if 0 < l4 then
        bb_X3_choose_27 c_X3_choose l0 l1 l2 l3 l4 l5 m0
      else
        (ab_rc m0 3 l0).bind fun _ =>
        (dd_X3_keep l0 l2 l5 m0).bind fun q2 =>
        some ((), q2.2)
  else
    some ((), m0)
def dd_X3_choose : Nat → Nat → Int32 → Int32 → Int32 → Int32 → Int32 → ab_Mm → Option (Unit × ab_Mm)
  | 0, _, _, _, _, _, _, _ => none
  | n + 1, a0, a1, a2, a3, a4, a5, m => st_X3_choose (dd_X3_choose n) a0 a1 a2 a3 a4 a5 m
def bb_X3_cheapest_85 (r21 : Nat → Nat → Nat → Int32 → Int32 → Int32 → ab_Mm → Option (Int32 × ab_Mm)) (l0 : Nat) (l1 : Nat) (l2 : Nat) (l3 : Int32) (l4 : Int32) (l5 : Int32) (m0 : ab_Mm) : Option (Int32 × ab_Mm) :=
  r21 l0 l1 l2 l3 l4 (l5 + (1 : Int32)) m0
def bb_X3_cheapest_56 (r21 : Nat → Nat → Nat → Int32 → Int32 → Int32 → ab_Mm → Option (Int32 × ab_Mm)) (l0 : Nat) (l1 : Nat) (l2 : Nat) (l3 : Int32) (l4 : Int32) (l5 : Int32) (s0 : Int32) (m0 : ab_Mm) : Option (Int32 × ab_Mm) :=
  if s0 = 0 then
    bb_X3_cheapest_85 r21 l0 l1 l2 l3 l4 l5 m0
  else
    (ab_fR m0 8 l2 2).bind fun v1 =>
    (ab_rc m0 10 v1).bind fun _ =>
    (dd_X10_get v1 l5 (2 : Int32) m0).bind fun q2 =>
    if q2.1 = (-1 : Int32) then
      bb_X3_cheapest_85 r21 l0 l1 l2 l3 l4 l5 q2.2
    else
      (ab_rc q2.2 3 l0).bind fun _ =>
      (dd_X3_addSpot l0 l1 l2 l5 q2.2).bind fun q3 =>
      bb_X3_cheapest_85 r21 l0 l1 l2 l3 l4 l5 q3.2
def bb_X3_cheapest_55 (r21 : Nat → Nat → Nat → Int32 → Int32 → Int32 → ab_Mm → Option (Int32 × ab_Mm)) (l0 : Nat) (l1 : Nat) (l2 : Nat) (l3 : Int32) (l4 : Int32) (l5 : Int32) (m0 : ab_Mm) : Option (Int32 × ab_Mm) :=
  bb_X3_cheapest_56 r21 l0 l1 l2 l3 l4 l5 (0 : Int32) m0
def bb_X3_cheapest_21  : Nat → Nat → Nat → Nat → Int32 → Int32 → Int32 → ab_Mm → Option (Int32 × ab_Mm)
  | 0, _, _, _, _, _, _, _ => none
  | n + 1, l0, l1, l2, l3, l4, l5, m0 =>
    if (12 : Int32) ≤ l5 then
      (ab_fR m0 1 l1 1).bind fun v1 =>
      (ab_rc m0 10 v1).bind fun _ =>
      (dd_X10_get v1 l4 (0 : Int32) m0).bind fun q2 =>
      (ab_rc q2.2 8 l2).bind fun _ =>
      (dd_X8_left l2 l1 l3 (0 : Int32) q2.2).bind fun q3 =>
      (ab_fR q3.2 1 l1 1).bind fun v4 =>
      (ab_rc q3.2 10 v4).bind fun _ =>
      (dd_X10_get v4 l4 (1 : Int32) q3.2).bind fun q5 =>
      (ab_rc q5.2 8 l2).bind fun _ =>
      (dd_X8_left l2 l1 l3 (1 : Int32) q5.2).bind fun q6 =>
      (dd_X3_choose 30 l0 (0 : Int32) (0 : Int32) (q2.1 - q3.1) (q5.1 - q6.1) (0 : Int32) q6.2).bind fun q7 =>
      (ab_fI q7.2 3 l0 1).bind fun v8 =>
      some (v8, q7.2)
    else
      (ab_rc m0 8 l2).bind fun _ =>
      (dd_X8_runs l2 l5 m0).bind fun q9 =>
      if q9.1 = 0 then
        bb_X3_cheapest_55 (bb_X3_cheapest_21  n) l0 l1 l2 l3 l4 l5 q9.2
      else
        (ab_fR q9.2 8 l2 2).bind fun v10 =>
        (ab_rc q9.2 10 v10).bind fun _ =>
        (dd_X10_get v10 l5 (3 : Int32) q9.2).bind fun q11 =>
        if q11.1 = l3 then
          bb_X3_cheapest_56 (bb_X3_cheapest_21  n) l0 l1 l2 l3 l4 l5 (1 : Int32) q11.2
        else
          bb_X3_cheapest_55 (bb_X3_cheapest_21  n) l0 l1 l2 l3 l4 l5 q11.2
def dd_X3_cheapest  (l0 : Nat) (l1 : Nat) (l2 : Nat) (l3 : Int32) (l4 : Int32) (m0 : ab_Mm) : Option (Int32 × ab_Mm) :=
  (ab_fR m0 3 l0 0).bind fun v1 =>
  (ab_rc m0 10 v1).bind fun _ =>
  (dd_X10_clear v1 m0).bind fun q2 =>
  (ab_pI q2.2 3 l0 1 (-1 : Int32)).bind fun m3 =>
  (ab_pI m3 3 l0 2 (119989 : Int32)).bind fun m4 =>
  bb_X3_cheapest_21  ab_fu l0 l1 l2 l3 l4 (0 : Int32) m4
def dd_X8_init  (l0 : Nat) (m0 : ab_Mm) : Option (Unit × ab_Mm) :=
  (ab_pI m0 8 l0 0 (0 : Int32)).bind fun m1 =>
  (ab_pI m1 8 l0 1 (0 : Int32)).bind fun m2 =>
  (ab_nw m2 (0, 10, [none, none, some none, none])).bind fun q3 =>
  (dd_X10_init q3.1 (12 : Int32) (6 : Int32) q3.2).bind fun q4 =>
  (ab_pR q4.2 8 l0 2 q3.1).bind fun m5 =>
  (ab_nw m5 (0, 10, [none, none, some none, none])).bind fun q6 =>
  (dd_X10_init q6.1 (10 : Int32) (3 : Int32) q6.2).bind fun q7 =>
  (ab_pR q7.2 8 l0 3 q6.1).bind fun m8 =>
  (ab_nw m8 (0, 10, [none, none, some none, none])).bind fun q9 =>
  (dd_X10_init q9.1 (6 : Int32) (1 : Int32) q9.2).bind fun q10 =>
  (ab_pR q10.2 8 l0 4 q9.1).bind fun m11 =>
  (ab_nw m11 (0, 10, [none, none, some none, none])).bind fun q12 =>
  (dd_X10_init q12.1 (8 : Int32) (2 : Int32) q12.2).bind fun q13 =>
  (ab_pR q13.2 8 l0 5 q12.1).bind fun m14 =>
  (ab_na m14 4 (6 : Int32)).bind fun q15 =>
  (ab_pR q15.2 8 l0 6 q15.1).bind fun m16 =>
  some ((), m16)
def bb_X4_init_68  : Nat → Nat → Int32 → ab_Mm → Option (Unit × ab_Mm)
  | 0, _, _, _ => none
  | n + 1, l0, l1, m0 =>
    (ab_fR m0 4 l0 1).bind fun v1 =>
    (ab_len m0 5 v1).bind fun v2 =>
    if v2 ≤ l1 then
      some ((), m0)
    else
      (ab_fR m0 4 l0 1).bind fun v3 =>
      (ab_nw m0 (0, 8, [none, none, some none, some none, some none, some none, some none])).bind fun q4 =>
      (dd_X8_init q4.1 q4.2).bind fun q5 =>
      (ab_stR q5.2 v3 l1 q4.1).bind fun m6 =>
      bb_X4_init_68  n l0 (l1 + (1 : Int32)) m6
def bb_X4_init_38  : Nat → Nat → Int32 → ab_Mm → Option (Unit × ab_Mm)
  | 0, _, _, _ => none
  | n + 1, l0, l1, m0 =>
    (ab_fR m0 4 l0 0).bind fun v1 =>
    (ab_len m0 5 v1).bind fun v2 =>
    if v2 ≤ l1 then
      bb_X4_init_68  ab_fu l0 (0 : Int32) m0
    else
      (ab_fR m0 4 l0 0).bind fun v3 =>
      (ab_nw m0 (0, 8, [none, none, some none, some none, some none, some none, some none])).bind fun q4 =>
      (dd_X8_init q4.1 q4.2).bind fun q5 =>
      (ab_stR q5.2 v3 l1 q4.1).bind fun m6 =>
      bb_X4_init_38  n l0 (l1 + (1 : Int32)) m6
def dd_X4_init  (l0 : Nat) (m0 : ab_Mm) : Option (Unit × ab_Mm) :=
  (ab_nq m0 (10 : Int32)).bind fun q1 =>
  (ab_pR q1.2 4 l0 0 q1.1).bind fun m2 =>
  (ab_nq m2 (2 : Int32)).bind fun q3 =>
  (ab_pR q3.2 4 l0 1 q3.1).bind fun m4 =>
  (ab_pI m4 4 l0 2 (0 : Int32)).bind fun m5 =>
  (ab_pI m5 4 l0 3 (0 : Int32)).bind fun m6 =>
  (ab_pI m6 4 l0 4 (0 : Int32)).bind fun m7 =>
  bb_X4_init_38  ab_fu l0 (0 : Int32) m7
def dd_X4_clear  (l0 : Nat) (m0 : ab_Mm) : Option (Unit × ab_Mm) :=
  (ab_pI m0 4 l0 2 (0 : Int32)).bind fun m1 =>
  (ab_pI m1 4 l0 4 (0 : Int32)).bind fun m2 =>
  some ((), m2)
def dd_X8_copyFrom  (l0 : Nat) (l1 : Nat) (m0 : ab_Mm) : Option (Unit × ab_Mm) :=
  (ab_fI m0 8 l1 0).bind fun v1 =>
  (ab_pI m0 8 l0 0 v1).bind fun m2 =>
  (ab_fI m2 8 l1 1).bind fun v3 =>
  (ab_pI m2 8 l0 1 v3).bind fun m4 =>
  (ab_fR m4 8 l0 2).bind fun v5 =>
  (ab_fR m4 8 l1 2).bind fun v6 =>
  (ab_rc m4 10 v5).bind fun _ =>
  (dd_X10_copyFrom v5 v6 m4).bind fun q7 =>
  (ab_fR q7.2 8 l0 3).bind fun v8 =>
  (ab_fR q7.2 8 l1 3).bind fun v9 =>
  (ab_rc q7.2 10 v8).bind fun _ =>
  (dd_X10_copyFrom v8 v9 q7.2).bind fun q10 =>
  (ab_fR q10.2 8 l0 4).bind fun v11 =>
  (ab_fR q10.2 8 l1 4).bind fun v12 =>
  (ab_rc q10.2 10 v11).bind fun _ =>
  (dd_X10_copyFrom v11 v12 q10.2).bind fun q13 =>
  (ab_fR q13.2 8 l0 5).bind fun v14 =>
  (ab_fR q13.2 8 l1 5).bind fun v15 =>
  (ab_rc q13.2 10 v14).bind fun _ =>
  (dd_X10_copyFrom v14 v15 q13.2).bind fun q16 =>
  (ab_fR q16.2 8 l1 6).bind fun v17 =>
  (ab_fR q16.2 8 l0 6).bind fun v18 =>
  (ab_fR q16.2 8 l0 6).bind fun v19 =>
  (ab_len q16.2 4 v19).bind fun v20 =>
  (ab_fR q16.2 8 l1 6).bind fun v21 =>
  (ab_len q16.2 4 v21).bind fun v22 =>
  (ab_cpJ q16.2 v17 (0 : Int32) v18 (0 : Int32) (if v22 < v20 then v22 else v20)).bind fun m23 =>
  some ((), m23)
def bb_X4_remember_90   (m0 : ab_Mm) : Option (Unit × ab_Mm) :=
  some ((), m0)
def bb_X4_remember_69  (l0 : Nat) (s0 : Nat) (s1 : Int32) (m0 : ab_Mm) : Option (Unit × ab_Mm) :=
  (ab_pI m0 4 s0 3 s1).bind fun m1 =>
  (ab_fI m1 4 l0 2).bind fun v2 =>
  (ab_fR m1 4 l0 0).bind fun v3 =>
  (ab_len m1 5 v3).bind fun v4 =>
  (ab_pI m1 4 l0 2 (if v4 < (v2 + (1 : Int32)) then v4 else (v2 + (1 : Int32)))).bind fun m5 =>
  bb_X4_remember_90   m5
def dd_X4_remember  (l0 : Nat) (l1 : Nat) (m0 : ab_Mm) : Option (Unit × ab_Mm) :=
  (ab_fI m0 4 l0 3).bind fun v1 =>
  if v1 < 0 then
    bb_X4_remember_90   m0
  else
    (ab_fI m0 4 l0 3).bind fun v2 =>
    (ab_fR m0 4 l0 0).bind fun v3 =>
    (ab_len m0 5 v3).bind fun v4 =>
    if v4 ≤ v2 then
      bb_X4_remember_90   m0
    else
      (ab_fR m0 4 l0 0).bind fun v5 =>
      (ab_fI m0 4 l0 3).bind fun v6 =>
      (ab_ldR m0 v5 v6).bind fun v7 =>
      (ab_fR m0 4 l0 0).bind fun v8 =>
      (ab_fI m0 4 l0 3).bind fun v9 =>
      (ab_ldR m0 v8 v9).bind fun v10 =>
      (ab_rc m0 8 v10).bind fun _ =>
      (dd_X8_copyFrom v10 l1 m0).bind fun q11 =>
      (ab_fI q11.2 4 l0 3).bind fun v12 =>
      (ab_fR q11.2 4 l0 0).bind fun v13 =>
      (ab_len q11.2 5 v13).bind fun v14 =>
      if v14 ≤ (v12 + (1 : Int32)) then
        bb_X4_remember_69  l0 l0 (0 : Int32) q11.2
      else
        (ab_fI q11.2 4 l0 3).bind fun v15 =>
        bb_X4_remember_69  l0 l0 (v15 + (1 : Int32)) q11.2
def bb_X4_takeBack_53   (m0 : ab_Mm) : Option (Int32 × ab_Mm) :=
  some ((0 : Int32), m0)
def bb_X4_takeBack_23  (l0 : Nat) (l1 : Nat) (s0 : Int32) (m0 : ab_Mm) : Option (Int32 × ab_Mm) :=
  (ab_fI m0 4 l0 2).bind fun v1 =>
  if v1 ≤ 0 then
    bb_X4_takeBack_53   m0
  else
    if s0 < 0 then
      bb_X4_takeBack_53   m0
    else
      (ab_fR m0 4 l0 0).bind fun v2 =>
      (ab_len m0 5 v2).bind fun v3 =>
      if v3 ≤ s0 then
        bb_X4_takeBack_53   m0
      else
        (ab_fR m0 4 l0 0).bind fun v4 =>
        (ab_ldR m0 v4 s0).bind fun v5 =>
        (ab_fR m0 4 l0 0).bind fun v6 =>
        (ab_ldR m0 v6 s0).bind fun v7 =>
        (ab_rc m0 8 l1).bind fun _ =>
        (dd_X8_copyFrom l1 v7 m0).bind fun q8 =>
        (ab_pI q8.2 4 l0 3 s0).bind fun m9 =>
        (ab_fI m9 4 l0 2).bind fun v10 =>
        (ab_pI m9 4 l0 2 (v10 - (1 : Int32))).bind fun m11 =>
        some ((1 : Int32), m11)
def dd_X4_takeBack  (l0 : Nat) (l1 : Nat) (m0 : ab_Mm) : Option (Int32 × ab_Mm) :=
  (ab_fI m0 4 l0 3).bind fun v1 =>
  if v1 ≤ 0 then
    (ab_fR m0 4 l0 0).bind fun v2 =>
    (ab_len m0 5 v2).bind fun v3 =>
    bb_X4_takeBack_23  l0 l1 (v3 - (1 : Int32)) m0
  else
    (ab_fI m0 4 l0 3).bind fun v4 =>
    bb_X4_takeBack_23  l0 l1 (v4 - (1 : Int32)) m0
def bb_X4_isSaved_29  (s0 : Int32) (m0 : ab_Mm) : Option (Int32 × ab_Mm) :=
  if ¬ (s0 &&& 1 = s0) then none else
  some (s0, m0)
def bb_X4_isSaved_28   (m0 : ab_Mm) : Option (Int32 × ab_Mm) :=
  bb_X4_isSaved_29  (0 : Int32) m0
def dd_X4_isSaved  (l0 : Nat) (l1 : Int32) (m0 : ab_Mm) : Option (Int32 × ab_Mm) :=
  if l1 < 0 then
    bb_X4_isSaved_28   m0
  else
    (ab_fR m0 4 l0 1).bind fun v1 =>
    (ab_len m0 5 v1).bind fun v2 =>
    if v2 ≤ l1 then
      bb_X4_isSaved_28   m0
    else
      (ab_fI m0 4 l0 4).bind fun v3 =>
      if ((v3 >>> (l1 &&& 31)) &&& (1 : Int32)) = 0 then
        bb_X4_isSaved_28   m0
      else
        bb_X4_isSaved_29  (1 : Int32) m0
def bb_X4_save_44   (m0 : ab_Mm) : Option (Unit × ab_Mm) :=
  some ((), m0)
def dd_X4_save  (l0 : Nat) (l1 : Int32) (l2 : Nat) (m0 : ab_Mm) : Option (Unit × ab_Mm) :=
  if l1 < 0 then
    bb_X4_save_44   m0
  else
    (ab_fR m0 4 l0 1).bind fun v1 =>
    (ab_len m0 5 v1).bind fun v2 =>
    if v2 ≤ l1 then
      bb_X4_save_44   m0
    else
      (ab_fR m0 4 l0 1).bind fun v3 =>
      (ab_ldR m0 v3 l1).bind fun v4 =>
      (ab_fR m0 4 l0 1).bind fun v5 =>
      (ab_ldR m0 v5 l1).bind fun v6 =>
      (ab_rc m0 8 v6).bind fun _ =>
      (dd_X8_copyFrom v6 l2 m0).bind fun q7 =>
      (ab_fI q7.2 4 l0 4).bind fun v8 =>
      (ab_pI q7.2 4 l0 4 (v8 ||| ((1 : Int32) <<< (l1 &&& 31)))).bind fun m9 =>
      bb_X4_save_44   m9
def bb_X4_restore_45   (m0 : ab_Mm) : Option (Unit × ab_Mm) :=
  some ((), m0)
def dd_X4_restore  (l0 : Nat) (l1 : Int32) (l2 : Nat) (m0 : ab_Mm) : Option (Unit × ab_Mm) :=
  (ab_rc m0 4 l0).bind fun _ =>
  (dd_X4_isSaved l0 l1 m0).bind fun q1 =>
  if q1.1 = 0 then
    bb_X4_restore_45   q1.2
  else
    if l1 < 0 then
      bb_X4_restore_45   q1.2
    else
      (ab_fR q1.2 4 l0 1).bind fun v2 =>
      (ab_len q1.2 5 v2).bind fun v3 =>
      if v3 ≤ l1 then
        bb_X4_restore_45   q1.2
      else
        (ab_fR q1.2 4 l0 1).bind fun v4 =>
        (ab_ldR q1.2 v4 l1).bind fun v5 =>
        (ab_fR q1.2 4 l0 1).bind fun v6 =>
        (ab_ldR q1.2 v6 l1).bind fun v7 =>
        (ab_rc q1.2 8 l2).bind fun _ =>
        (dd_X8_copyFrom l2 v7 q1.2).bind fun q8 =>
        (ab_pI q8.2 4 l0 2 (0 : Int32)).bind fun m9 =>
        bb_X4_restore_45   m9
def dd_X5_init  (l0 : Nat) (m0 : ab_Mm) : Option (Unit × ab_Mm) :=
  (ab_na m0 1 (6 : Int32)).bind fun q1 =>
  (ab_pR q1.2 5 l0 0 q1.1).bind fun m2 =>
  (ab_na m2 1 (6 : Int32)).bind fun q3 =>
  (ab_pR q3.2 5 l0 1 q3.1).bind fun m4 =>
  (ab_pI m4 5 l0 2 (0 : Int32)).bind fun m5 =>
  some ((), m5)
def dd_X5_restart  (l0 : Nat) (m0 : ab_Mm) : Option (Unit × ab_Mm) :=
  (ab_fR m0 5 l0 0).bind fun v1 =>
  (dd_J7_fill_53178 v1 (0 : Int32) m0).bind fun q2 =>
  (ab_pI q2.2 5 l0 2 (0 : Int32)).bind fun m3 =>
  some ((), m3)
def bb_X5_step_97   (m0 : ab_Mm) : Option (Int32 × ab_Mm) :=
  some ((0 : Int32), m0)
def bb_X5_step_2  : Nat → Nat → Nat → Int32 → ab_Mm → Option (Int32 × ab_Mm)
  | 0, _, _, _, _ => none
  | n + 1, l0, l1, l2, m0 =>
    (ab_fR m0 5 l0 0).bind fun v1 =>
    (ab_len m0 1 v1).bind fun v2 =>
    if v2 ≤ l2 then
      bb_X5_step_97   m0
    else
      (ab_fR m0 5 l0 1).bind fun v3 =>
      (ab_len m0 1 v3).bind fun v4 =>
      if v4 ≤ l2 then
        bb_X5_step_97   m0
      else
        (ab_len m0 1 l1).bind fun v5 =>
        if v5 ≤ l2 then
          bb_X5_step_97   m0
        else
          (ab_fR m0 5 l0 0).bind fun v6 =>
          (ab_ld m0 1 v6 l2).bind fun v7 =>
          (ab_fR m0 5 l0 1).bind fun v8 =>
          (ab_ld m0 1 v8 l2).bind fun v9 =>
          if v9 ≤ v7 then
            (ab_fI m0 5 l0 2).bind fun v10 =>
            (ab_fR m0 5 l0 0).bind fun v11 =>
            (ab_ld m0 1 v11 l2).bind fun v12 =>
            (ab_ld m0 1 l1 l2).bind fun v13 =>
            (ab_pI m0 5 l0 2 (v10 - (v12 * v13))).bind fun m14 =>
            (ab_fR m14 5 l0 0).bind fun v15 =>
            (ab_st m14 1 v15 l2 (0 : Int32)).bind fun m16 =>
            bb_X5_step_2  n l0 l1 (l2 + (1 : Int32)) m16
          else
            (ab_fR m0 5 l0 0).bind fun v17 =>
            (ab_ld m0 1 v17 l2).bind fun v18 =>
            (ab_st m0 1 v17 l2 (v18 + (1 : Int32))).bind fun m19 =>
            (ab_fI m19 5 l0 2).bind fun v20 =>
            (ab_ld m19 1 l1 l2).bind fun v21 =>
            (ab_pI m19 5 l0 2 (v20 + v21)).bind fun m22 =>
            some ((1 : Int32), m22)
def dd_X5_step  (l0 : Nat) (l1 : Nat) (m0 : ab_Mm) : Option (Int32 × ab_Mm) :=
  bb_X5_step_2  ab_fu l0 l1 (0 : Int32) m0
def dd_X6_init  (l0 : Nat) (m0 : ab_Mm) : Option (Unit × ab_Mm) :=
  (ab_na m0 1 (729 : Int32)).bind fun q1 =>
  (ab_pR q1.2 6 l0 0 q1.1).bind fun m2 =>
  (ab_na m2 1 (729 : Int32)).bind fun q3 =>
  (ab_pR q3.2 6 l0 1 q3.1).bind fun m4 =>
  (ab_nw m4 (0, 10, [none, none, some none, none])).bind fun q5 =>
  (dd_X10_init q5.1 (729 : Int32) (2 : Int32) q5.2).bind fun q6 =>
  (ab_pR q6.2 6 l0 2 q5.1).bind fun m7 =>
  (ab_na m7 1 (6 : Int32)).bind fun q8 =>
  (ab_pR q8.2 6 l0 3 q8.1).bind fun m9 =>
  (ab_nw m9 (0, 5, [some none, some none, none])).bind fun q10 =>
  (dd_X5_init q10.1 q10.2).bind fun q11 =>
  (ab_pR q11.2 6 l0 4 q10.1).bind fun m12 =>
  (ab_nw m12 (0, 5, [some none, some none, none])).bind fun q13 =>
  (dd_X5_init q13.1 q13.2).bind fun q14 =>
  (ab_pR q14.2 6 l0 5 q13.1).bind fun m15 =>
  some ((), m15)
def bb_X8_manyOf_37 (r4 : Nat → Int32 → Int32 → Int32 → ab_Mm → Option (Int32 × ab_Mm)) (l0 : Nat) (l1 : Int32) (l3 : Int32) (s0 : Int32) (s1 : Int32) (m0 : ab_Mm) : Option (Int32 × ab_Mm) :=
  r4 l0 l1 (s0 + s1) (l3 + (1 : Int32)) m0
def bb_X8_manyOf_36 (r4 : Nat → Int32 → Int32 → Int32 → ab_Mm → Option (Int32 × ab_Mm)) (l0 : Nat) (l1 : Int32) (l3 : Int32) (s0 : Int32) (m0 : ab_Mm) : Option (Int32 × ab_Mm) :=
  bb_X8_manyOf_37 r4 l0 l1 l3 s0 (0 : Int32) m0
def bb_X8_manyOf_4  : Nat → Nat → Int32 → Int32 → Int32 → ab_Mm → Option (Int32 × ab_Mm)
  | 0, _, _, _, _, _ => none
  | n + 1, l0, l1, l2, l3, m0 =>
    if (12 : Int32) ≤ l3 then
      some (l2, m0)
    else
      (ab_rc m0 8 l0).bind fun _ =>
      (dd_X8_runs l0 l3 m0).bind fun q1 =>
      if q1.1 = 0 then
        bb_X8_manyOf_36 (bb_X8_manyOf_4  n) l0 l1 l3 l2 q1.2
      else
        (ab_fR q1.2 8 l0 2).bind fun v2 =>
        (ab_rc q1.2 10 v2).bind fun _ =>
        (dd_X10_get v2 l3 (1 : Int32) q1.2).bind fun q3 =>
        if q3.1 = l1 then
          bb_X8_manyOf_37 (bb_X8_manyOf_4  n) l0 l1 l3 l2 (1 : Int32) q3.2
        else
          bb_X8_manyOf_36 (bb_X8_manyOf_4  n) l0 l1 l3 l2 q3.2
def dd_X8_manyOf  (l0 : Nat) (l1 : Int32) (m0 : ab_Mm) : Option (Int32 × ab_Mm) :=
  bb_X8_manyOf_4  ab_fu l0 l1 (0 : Int32) (0 : Int32) m0
def bb_X6_countTypes_78  (l2 : Int32) (m0 : ab_Mm) : Option (Int32 × ab_Mm) :=
  some (l2, m0)
def bb_X6_countTypes_7  : Nat → Nat → Nat → Int32 → Int32 → Int32 → ab_Mm → Option (Int32 × ab_Mm)
  | 0, _, _, _, _, _, _ => none
  | n + 1, l0, l1, l2, l3, l4, m0 =>
    (ab_fR m0 6 l0 3).bind fun v1 =>
    (ab_len m0 1 v1).bind fun v2 =>
    if v2 ≤ l4 then
      bb_X6_countTypes_78  l2 m0
    else
      (ab_fR m0 6 l0 4).bind fun v3 =>
      (ab_fR m0 5 v3 1).bind fun v4 =>
      (ab_len m0 1 v4).bind fun v5 =>
      if v5 ≤ l4 then
        bb_X6_countTypes_78  l2 m0
      else
        (ab_rc m0 8 l1).bind fun _ =>
        (dd_X8_manyOf l1 l4 m0).bind fun q6 =>
        (ab_fR q6.2 6 l0 4).bind fun v7 =>
        (ab_fR q6.2 5 v7 1).bind fun v8 =>
        (ab_st q6.2 1 v8 l4 q6.1).bind fun m9 =>
        (ab_fR m9 6 l0 3).bind fun v10 =>
        (ab_st m9 1 v10 l4 l3).bind fun m11 =>
        bb_X6_countTypes_7  n l0 l1 (l2 + (q6.1 * l3)) (l3 * (q6.1 + (1 : Int32))) (l4 + (1 : Int32)) m11
def dd_X6_countTypes  (l0 : Nat) (l1 : Nat) (m0 : ab_Mm) : Option (Int32 × ab_Mm) :=
  bb_X6_countTypes_7  ab_fu l0 l1 (0 : Int32) (1 : Int32) (0 : Int32) m0
def bb_X6_addNeeds_154   (m0 : ab_Mm) : Option (Unit × ab_Mm) :=
  some ((), m0)
def bb_X6_addNeeds_31 (r11 : Nat → Nat → Int32 → Int32 → ab_Mm → Option (Unit × ab_Mm)) : Nat → Nat → Nat → Int32 → Int32 → Int32 → Int32 → ab_Mm → Option (Unit × ab_Mm)
  | 0, _, _, _, _, _, _, _ => none
  | n + 1, l0, l1, l3, l4, l5, l6, m0 =>
    (ab_fR m0 6 l0 4).bind fun v1 =>
    (ab_fR m0 5 v1 0).bind fun v2 =>
    (ab_len m0 1 v2).bind fun v3 =>
    if v3 ≤ l6 then
      (ab_fR m0 6 l0 2).bind fun v4 =>
      (ab_fR m0 6 l0 4).bind fun v5 =>
      (ab_fI m0 5 v5 2).bind fun v6 =>
      (ab_rc m0 10 v4).bind fun _ =>
      (dd_X10_set v4 v6 (0 : Int32) l4 m0).bind fun q7 =>
      (ab_fR q7.2 6 l0 2).bind fun v8 =>
      (ab_fR q7.2 6 l0 4).bind fun v9 =>
      (ab_fI q7.2 5 v9 2).bind fun v10 =>
      (ab_rc q7.2 10 v8).bind fun _ =>
      (dd_X10_set v8 v10 (1 : Int32) l5 q7.2).bind fun q11 =>
      (ab_fR q11.2 6 l0 4).bind fun v12 =>
      (ab_fR q11.2 6 l0 3).bind fun v13 =>
      (ab_rc q11.2 5 v12).bind fun _ =>
      (dd_X5_step v12 v13 q11.2).bind fun q14 =>
      r11 l0 l1 q14.1 (l3 + (1 : Int32)) q14.2
    else
      (ab_fR m0 6 l0 4).bind fun v15 =>
      (ab_fR m0 5 v15 0).bind fun v16 =>
      (ab_ld m0 1 v16 l6).bind fun v17 =>
      (ab_fR m0 1 l1 1).bind fun v18 =>
      (ab_rc m0 10 v18).bind fun _ =>
      (dd_X10_get v18 l6 (0 : Int32) m0).bind fun q19 =>
      (ab_fR q19.2 6 l0 4).bind fun v20 =>
      (ab_fR q19.2 5 v20 0).bind fun v21 =>
      (ab_ld q19.2 1 v21 l6).bind fun v22 =>
      (ab_fR q19.2 1 l1 1).bind fun v23 =>
      (ab_rc q19.2 10 v23).bind fun _ =>
      (dd_X10_get v23 l6 (1 : Int32) q19.2).bind fun q24 =>
      bb_X6_addNeeds_31 r11 n l0 l1 l3 (l4 + (v17 * q19.1)) (l5 + (v22 * q24.1)) (l6 + (1 : Int32)) q24.2
def bb_X6_addNeeds_11  : Nat → Nat → Nat → Int32 → Int32 → ab_Mm → Option (Unit × ab_Mm)
  | 0, _, _, _, _, _ => none
  | n + 1, l0, l1, l2, l3, m0 =>
    if (729 : Int32) ≤ l3 then
      bb_X6_addNeeds_154   m0
    else
      if l2 = 0 then
        bb_X6_addNeeds_154   m0
      else
        bb_X6_addNeeds_31 (bb_X6_addNeeds_11  n) ab_fu l0 l1 l3 (0 : Int32) (0 : Int32) (0 : Int32) m0
def dd_X6_addNeeds  (l0 : Nat) (l1 : Nat) (m0 : ab_Mm) : Option (Unit × ab_Mm) :=
  (ab_fR m0 6 l0 4).bind fun v1 =>
  (ab_rc m0 5 v1).bind fun _ =>
  (dd_X5_restart v1 m0).bind fun q2 =>
  bb_X6_addNeeds_11  ab_fu l0 l1 (1 : Int32) (0 : Int32) q2.2
def bb_X8_hostsInUse_28 (r4 : Nat → Int32 → Int32 → ab_Mm → Option (Int32 × ab_Mm)) (l0 : Nat) (l2 : Int32) (s0 : Int32) (s1 : Int32) (m0 : ab_Mm) : Option (Int32 × ab_Mm) :=
  r4 l0 (s0 + s1) (l2 + (1 : Int32)) m0
def bb_X8_hostsInUse_4  : Nat → Nat → Int32 → Int32 → ab_Mm → Option (Int32 × ab_Mm)
  | 0, _, _, _, _ => none
  | n + 1, l0, l1, l2, m0 =>
    if (8 : Int32) ≤ l2 then
      some (l1, m0)
    else
      (ab_fR m0 8 l0 5).bind fun v1 =>
      (ab_rc m0 10 v1).bind fun _ =>
      (dd_X10_get v1 l2 (0 : Int32) m0).bind fun q2 =>
      if q2.1 ≤ 0 then
        bb_X8_hostsInUse_28 (bb_X8_hostsInUse_4  n) l0 l2 l1 (0 : Int32) q2.2
      else
        bb_X8_hostsInUse_28 (bb_X8_hostsInUse_4  n) l0 l2 l1 (1 : Int32) q2.2
def dd_X8_hostsInUse  (l0 : Nat) (m0 : ab_Mm) : Option (Int32 × ab_Mm) :=
  bb_X8_hostsInUse_4  ab_fu l0 (0 : Int32) (0 : Int32) m0
def bb_X6_addHost_298   (m0 : ab_Mm) : Option (Unit × ab_Mm) :=
  some ((), m0)
def bb_X6_addHost_292 (r172 : Nat → Int32 → Int32 → Int32 → Int32 → Int32 → ab_Mm → Option (Unit × ab_Mm)) (l0 : Nat) (l4 : Int32) (l5 : Int32) (l6 : Int32) (l7 : Int32) (l8 : Int32) (m0 : ab_Mm) : Option (Unit × ab_Mm) :=
  r172 l0 l4 l5 l6 l7 (l8 + (1 : Int32)) m0
def bb_X6_addHost_251 (r172 : Nat → Int32 → Int32 → Int32 → Int32 → Int32 → ab_Mm → Option (Unit × ab_Mm)) (l0 : Nat) (l4 : Int32) (l5 : Int32) (l6 : Int32) (l7 : Int32) (l8 : Int32) (l9 : Int32) (s0 : Int32) (m0 : ab_Mm) : Option (Unit × ab_Mm) :=
  if s0 = 0 then
    bb_X6_addHost_292 r172 l0 l4 l5 l6 l7 l8 m0
  else
    if l9 < 0 then
      bb_X6_addHost_292 r172 l0 l4 l5 l6 l7 l8 m0
    else
      (ab_fR m0 6 l0 0).bind fun v1 =>
      (ab_len m0 1 v1).bind fun v2 =>
      if v2 ≤ l9 then
        bb_X6_addHost_292 r172 l0 l4 l5 l6 l7 l8 m0
      else
        (ab_fR m0 6 l0 0).bind fun v3 =>
        (ab_fR m0 6 l0 0).bind fun v4 =>
        (ab_ld m0 1 v4 l9).bind fun v5 =>
        (ab_st m0 1 v3 l9 (if l5 < v5 then l5 else v5)).bind fun m6 =>
        bb_X6_addHost_292 r172 l0 l4 l5 l6 l7 l8 m6
def bb_X6_addHost_250 (r172 : Nat → Int32 → Int32 → Int32 → Int32 → Int32 → ab_Mm → Option (Unit × ab_Mm)) (l0 : Nat) (l4 : Int32) (l5 : Int32) (l6 : Int32) (l7 : Int32) (l8 : Int32) (l9 : Int32) (m0 : ab_Mm) : Option (Unit × ab_Mm) :=
  bb_X6_addHost_251 r172 l0 l4 l5 l6 l7 l8 l9 (0 : Int32) m0
def bb_X6_addHost_172  : Nat → Nat → Int32 → Int32 → Int32 → Int32 → Int32 → ab_Mm → Option (Unit × ab_Mm)
  | 0, _, _, _, _, _, _, _ => none
  | n + 1, l0, l4, l5, l6, l7, l8, m0 =>
    if (729 : Int32) ≤ l8 then
      bb_X6_addHost_298   m0
    else
      (ab_fR m0 6 l0 5).bind fun v1 =>
      (ab_fR m0 6 l0 3).bind fun v2 =>
      (ab_rc m0 5 v1).bind fun _ =>
      (dd_X5_step v1 v2 m0).bind fun q3 =>
      if q3.1 = 0 then
        bb_X6_addHost_298   q3.2
      else
        (ab_fR q3.2 6 l0 5).bind fun v4 =>
        (ab_fI q3.2 5 v4 2).bind fun v5 =>
        (ab_fR q3.2 6 l0 2).bind fun v6 =>
        (ab_fR q3.2 6 l0 5).bind fun v7 =>
        (ab_fI q3.2 5 v7 2).bind fun v8 =>
        (ab_rc q3.2 10 v6).bind fun _ =>
        (dd_X10_get v6 v8 (0 : Int32) q3.2).bind fun q9 =>
        if l6 < q9.1 then
          bb_X6_addHost_250 (bb_X6_addHost_172  n) l0 l4 l5 l6 l7 l8 (l4 + v5) q9.2
        else
          (ab_fR q9.2 6 l0 2).bind fun v10 =>
          (ab_fR q9.2 6 l0 5).bind fun v11 =>
          (ab_fI q9.2 5 v11 2).bind fun v12 =>
          (ab_rc q9.2 10 v10).bind fun _ =>
          (dd_X10_get v10 v12 (1 : Int32) q9.2).bind fun q13 =>
          if l7 < q13.1 then
            bb_X6_addHost_250 (bb_X6_addHost_172  n) l0 l4 l5 l6 l7 l8 (l4 + v5) q13.2
          else
            bb_X6_addHost_251 (bb_X6_addHost_172  n) l0 l4 l5 l6 l7 l8 (l4 + v5) (1 : Int32) q13.2
def bb_X6_addHost_140  (l0 : Nat) (l1 : Nat) (l2 : Int32) (l4 : Int32) (l5 : Int32) (m0 : ab_Mm) : Option (Unit × ab_Mm) :=
  (ab_fR m0 1 l1 0).bind fun v1 =>
  (ab_rc m0 10 v1).bind fun _ =>
  (dd_X10_get v1 l2 (0 : Int32) m0).bind fun q2 =>
  (ab_fR q2.2 1 l1 0).bind fun v3 =>
  (ab_rc q2.2 10 v3).bind fun _ =>
  (dd_X10_get v3 l2 (1 : Int32) q2.2).bind fun q4 =>
  (ab_fR q4.2 6 l0 5).bind fun v5 =>
  (ab_rc q4.2 5 v5).bind fun _ =>
  (dd_X5_restart v5 q4.2).bind fun q6 =>
  bb_X6_addHost_172  ab_fu l0 l4 l5 q2.1 q4.1 (0 : Int32) q6.2
def bb_X6_addHost_64  : Nat → Nat → Nat → Int32 → Int32 → Int32 → Int32 → ab_Mm → Option (Unit × ab_Mm)
  | 0, _, _, _, _, _, _, _ => none
  | n + 1, l0, l1, l2, l4, l5, l6, m0 =>
    (ab_fR m0 6 l0 5).bind fun v1 =>
    (ab_fR m0 5 v1 1).bind fun v2 =>
    (ab_len m0 1 v2).bind fun v3 =>
    if v3 ≤ l6 then
      bb_X6_addHost_140  l0 l1 l2 l4 l5 m0
    else
      (ab_fR m0 6 l0 4).bind fun v4 =>
      (ab_fR m0 5 v4 1).bind fun v5 =>
      (ab_len m0 1 v5).bind fun v6 =>
      if v6 ≤ l6 then
        bb_X6_addHost_140  l0 l1 l2 l4 l5 m0
      else
        (ab_fR m0 6 l0 4).bind fun v7 =>
        (ab_fR m0 5 v7 0).bind fun v8 =>
        (ab_len m0 1 v8).bind fun v9 =>
        if v9 ≤ l6 then
          bb_X6_addHost_140  l0 l1 l2 l4 l5 m0
        else
          (ab_fR m0 6 l0 5).bind fun v10 =>
          (ab_fR m0 5 v10 1).bind fun v11 =>
          (ab_fR m0 6 l0 4).bind fun v12 =>
          (ab_fR m0 5 v12 1).bind fun v13 =>
          (ab_ld m0 1 v13 l6).bind fun v14 =>
          (ab_fR m0 6 l0 4).bind fun v15 =>
          (ab_fR m0 5 v15 0).bind fun v16 =>
          (ab_ld m0 1 v16 l6).bind fun v17 =>
          (ab_st m0 1 v11 l6 (v14 - v17)).bind fun m18 =>
          bb_X6_addHost_64  n l0 l1 l2 l4 l5 (l6 + (1 : Int32)) m18
def bb_X6_addHost_37   (m0 : ab_Mm) : Option (Unit × ab_Mm) :=
  some ((), m0)
def dd_X6_addHost  (l0 : Nat) (l1 : Nat) (l2 : Int32) (l3 : Int32) (m0 : ab_Mm) : Option (Unit × ab_Mm) :=
  (ab_fR m0 6 l0 4).bind fun v1 =>
  (ab_fI m0 5 v1 2).bind fun v2 =>
  if v2 < 0 then
    bb_X6_addHost_37   m0
  else
    (ab_fR m0 6 l0 1).bind fun v3 =>
    (ab_len m0 1 v3).bind fun v4 =>
    if v4 ≤ v2 then
      bb_X6_addHost_37   m0
    else
      if l3 < 0 then
        bb_X6_addHost_37   m0
      else
        (ab_fR m0 6 l0 0).bind fun v5 =>
        (ab_len m0 1 v5).bind fun v6 =>
        if l3 < v6 then
          (ab_fR m0 6 l0 1).bind fun v7 =>
          (ab_ld m0 1 v7 v2).bind fun v8 =>
          (ab_fR m0 6 l0 0).bind fun v9 =>
          (ab_ld m0 1 v9 l3).bind fun v10 =>
          if (v8 + (1 : Int32)) < v10 then
            bb_X6_addHost_64  ab_fu l0 l1 l2 v2 (v8 + (1 : Int32)) (0 : Int32) m0
          else
            some ((), m0)
        else
          bb_X6_addHost_37   m0
def bb_X6_fewestFor_146 (r55 : Nat → Nat → Int32 → Int32 → ab_Mm → Option (Int32 × ab_Mm)) (l0 : Nat) (l1 : Nat) (l3 : Int32) (l4 : Int32) (m0 : ab_Mm) : Option (Int32 × ab_Mm) :=
  r55 l0 l1 l3 (l4 + (1 : Int32)) m0
def bb_X6_fewestFor_106 (r55 : Nat → Nat → Int32 → Int32 → ab_Mm → Option (Int32 × ab_Mm)) : Nat → Nat → Nat → Int32 → Int32 → Int32 → Int32 → ab_Mm → Option (Int32 × ab_Mm)
  | 0, _, _, _, _, _, _, _ => none
  | n + 1, l0, l1, l3, l4, l5, l6, m0 =>
    if (729 : Int32) ≤ l6 then
      bb_X6_fewestFor_146 r55 l0 l1 l3 l4 m0
    else
      if l5 = 0 then
        bb_X6_fewestFor_146 r55 l0 l1 l3 l4 m0
      else
        (ab_rc m0 6 l0).bind fun _ =>
        (dd_X6_addHost l0 l1 l4 l3 m0).bind fun q1 =>
        (ab_fR q1.2 6 l0 4).bind fun v2 =>
        (ab_fR q1.2 6 l0 3).bind fun v3 =>
        (ab_rc q1.2 5 v2).bind fun _ =>
        (dd_X5_step v2 v3 q1.2).bind fun q4 =>
        bb_X6_fewestFor_106 r55 n l0 l1 l3 l4 q4.1 (l6 + (1 : Int32)) q4.2
def bb_X6_fewestFor_55  : Nat → Nat → Nat → Int32 → Int32 → ab_Mm → Option (Int32 × ab_Mm)
  | 0, _, _, _, _, _ => none
  | n + 1, l0, l1, l3, l4, m0 =>
    (ab_fR m0 1 l1 0).bind fun v1 =>
    (ab_fI m0 10 v1 3).bind fun v2 =>
    if v2 ≤ l4 then
      (ab_fR m0 6 l0 0).bind fun v3 =>
      (ab_ld m0 1 v3 l3).bind fun v4 =>
      some (v4, m0)
    else
      (ab_fR m0 6 l0 0).bind fun v5 =>
      (ab_fR m0 6 l0 1).bind fun v6 =>
      (ab_fR m0 6 l0 0).bind fun v7 =>
      (ab_len m0 1 v7).bind fun v8 =>
      (ab_fR m0 6 l0 1).bind fun v9 =>
      (ab_len m0 1 v9).bind fun v10 =>
      (ab_cpI m0 v5 (0 : Int32) v6 (0 : Int32) (if v10 < v8 then v10 else v8)).bind fun m11 =>
      (ab_fR m11 6 l0 4).bind fun v12 =>
      (ab_rc m11 5 v12).bind fun _ =>
      (dd_X5_restart v12 m11).bind fun q13 =>
      bb_X6_fewestFor_106 (bb_X6_fewestFor_55  n) ab_fu l0 l1 l3 l4 (1 : Int32) (0 : Int32) q13.2
def bb_X6_fewestFor_19   (m0 : ab_Mm) : Option (Int32 × ab_Mm) :=
  some ((0 : Int32), m0)
def dd_X6_fewestFor  (l0 : Nat) (l1 : Nat) (l2 : Nat) (m0 : ab_Mm) : Option (Int32 × ab_Mm) :=
  (ab_rc m0 6 l0).bind fun _ =>
  (dd_X6_countTypes l0 l2 m0).bind fun q1 =>
  if q1.1 ≤ 0 then
    bb_X6_fewestFor_19   q1.2
  else
    (ab_fR q1.2 6 l0 0).bind fun v2 =>
    (ab_len q1.2 1 v2).bind fun v3 =>
    if q1.1 < v3 then
      (ab_rc q1.2 6 l0).bind fun _ =>
      (dd_X6_addNeeds l0 l1 q1.2).bind fun q4 =>
      (ab_fR q4.2 6 l0 0).bind fun v5 =>
      (dd_J7_fill_53178 v5 (99 : Int32) q4.2).bind fun q6 =>
      (ab_fR q6.2 6 l0 0).bind fun v7 =>
      (ab_st q6.2 1 v7 (0 : Int32) (0 : Int32)).bind fun m8 =>
      (ab_fR m8 6 l0 0).bind fun v9 =>
      (ab_rc m8 8 l2).bind fun _ =>
      (dd_X8_hostsInUse l2 m8).bind fun q10 =>
      (ab_st q10.2 1 v9 q1.1 q10.1).bind fun m11 =>
      bb_X6_fewestFor_55  ab_fu l0 l1 q1.1 (0 : Int32) m11
    else
      bb_X6_fewestFor_19   q1.2
def dd_X7_init  (l0 : Nat) (m0 : ab_Mm) : Option (Unit × ab_Mm) :=
  (ab_na m0 2 (800 : Int32)).bind fun q1 =>
  (ab_pR q1.2 7 l0 0 q1.1).bind fun m2 =>
  (ab_pI m2 7 l0 1 (0 : Int32)).bind fun m3 =>
  (ab_na m3 2 (800 : Int32)).bind fun q4 =>
  (ab_pR q4.2 7 l0 2 q4.1).bind fun m5 =>
  (ab_nw m5 (0, 1, [some none, some none, some none, some none, some none, some none])).bind fun q6 =>
  (dd_X1_init q6.1 q6.2).bind fun q7 =>
  (ab_pR q7.2 7 l0 3 q6.1).bind fun m8 =>
  (ab_pI m8 7 l0 4 (-1 : Int32)).bind fun m9 =>
  (ab_pI m9 7 l0 5 (0 : Int32)).bind fun m10 =>
  (ab_pI m10 7 l0 6 (0 : Int32)).bind fun m11 =>
  (ab_pI m11 7 l0 7 (0 : Int32)).bind fun m12 =>
  (ab_pI m12 7 l0 8 (0 : Int32)).bind fun m13 =>
  (ab_pI m13 7 l0 9 (0 : Int32)).bind fun m14 =>
  (ab_pI m14 7 l0 10 (0 : Int32)).bind fun m15 =>
  some ((), m15)
def bb_X7_putWord_49 (r3 : Nat → Int32 → Int32 → ab_Mm → Option (Unit × ab_Mm)) (l0 : Nat) (l1 : Int32) (l2 : Int32) (m0 : ab_Mm) : Option (Unit × ab_Mm) :=
  r3 l0 l1 (l2 + (-8 : Int32)) m0
def bb_X7_putWord_3  : Nat → Nat → Int32 → Int32 → ab_Mm → Option (Unit × ab_Mm)
  | 0, _, _, _, _ => none
  | n + 1, l0, l1, l2, m0 =>
    if l2 < 0 then
      some ((), m0)
    else
      (ab_fI m0 7 l0 1).bind fun v1 =>
      if v1 < 0 then
        bb_X7_putWord_49 (bb_X7_putWord_3  n) l0 l1 l2 m0
      else
        (ab_fI m0 7 l0 1).bind fun v2 =>
        (ab_fR m0 7 l0 0).bind fun v3 =>
        (ab_len m0 2 v3).bind fun v4 =>
        if v4 ≤ v2 then
          bb_X7_putWord_49 (bb_X7_putWord_3  n) l0 l1 l2 m0
        else
          (ab_fR m0 7 l0 0).bind fun v5 =>
          (ab_fI m0 7 l0 1).bind fun v6 =>
          (ab_st m0 2 v5 v6 (((l1 >>> (l2 &&& 31)).toInt8.toInt32).toInt8.toInt32)).bind fun m7 =>
          (ab_fI m7 7 l0 1).bind fun v8 =>
          (ab_pI m7 7 l0 1 (v8 + (1 : Int32))).bind fun m9 =>
          bb_X7_putWord_49 (bb_X7_putWord_3  n) l0 l1 l2 m9
def dd_X7_putWord  (l0 : Nat) (l1 : Int32) (m0 : ab_Mm) : Option (Unit × ab_Mm) :=
  bb_X7_putWord_3  ab_fu l0 l1 (24 : Int32) m0
def bb_X7_sortOf_114   (m0 : ab_Mm) : Option (Int32 × ab_Mm) :=
  some ((4 : Int32), m0)
def bb_X7_sortOf_112   (m0 : ab_Mm) : Option (Int32 × ab_Mm) :=
  some ((5 : Int32), m0)
def bb_X7_sortOf_28  (l0 : Int32) (m0 : ab_Mm) : Option (Int32 × ab_Mm) :=
  if l0 = (10 : Int32) then
    bb_X7_sortOf_112   m0
  else if l0 = (32 : Int32) then
    bb_X7_sortOf_112   m0
  else if l0 = (40 : Int32) then
    bb_X7_sortOf_114   m0
  else if l0 = (41 : Int32) then
    bb_X7_sortOf_114   m0
  else if l0 = (42 : Int32) then
    bb_X7_sortOf_114   m0
  else if l0 = (43 : Int32) then
    bb_X7_sortOf_114   m0
  else if l0 = (45 : Int32) then
    bb_X7_sortOf_114   m0
  else if l0 = (47 : Int32) then
    bb_X7_sortOf_114   m0
  else if l0 = (59 : Int32) then
    bb_X7_sortOf_114   m0
  else 
    some ((3 : Int32), m0)
def bb_X7_sortOf_14  (l0 : Int32) (m0 : ab_Mm) : Option (Int32 × ab_Mm) :=
  if l0 < (48 : Int32) then
    bb_X7_sortOf_28  l0 m0
  else
    if (57 : Int32) < l0 then
      bb_X7_sortOf_28  l0 m0
    else
      some ((2 : Int32), m0)
def dd_X7_sortOf  (l0 : Int32) (m0 : ab_Mm) : Option (Int32 × ab_Mm) :=
  if l0 < (97 : Int32) then
    bb_X7_sortOf_14  l0 m0
  else
    if (122 : Int32) < l0 then
      bb_X7_sortOf_14  l0 m0
    else
      some ((1 : Int32), m0)
def bb_X7_runEnd_43  (l3 : Int32) (m0 : ab_Mm) : Option (Int32 × ab_Mm) :=
  some (l3, m0)
def bb_X7_runEnd_10  : Nat → Nat → Int32 → Int32 → ab_Mm → Option (Int32 × ab_Mm)
  | 0, _, _, _, _ => none
  | n + 1, l0, l2, l3, m0 =>
    (ab_fI m0 7 l0 6).bind fun v1 =>
    if v1 ≤ l3 then
      bb_X7_runEnd_43  l3 m0
    else
      (ab_fR m0 7 l0 2).bind fun v2 =>
      (ab_len m0 2 v2).bind fun v3 =>
      if v3 ≤ l3 then
        bb_X7_runEnd_43  l3 m0
      else
        (ab_fR m0 7 l0 2).bind fun v4 =>
        (ab_ld m0 2 v4 l3).bind fun v5 =>
        if v5 = l2 then
          bb_X7_runEnd_10  n l0 l2 (l3 + (1 : Int32)) m0
        else
          bb_X7_runEnd_43  l3 m0
def bb_X7_runEnd_9  (l0 : Nat) (l2 : Int32) (s0 : Int32) (m0 : ab_Mm) : Option (Int32 × ab_Mm) :=
  bb_X7_runEnd_10  ab_fu l0 l2 s0 m0
def dd_X7_runEnd  (l0 : Nat) (l1 : Int32) (l2 : Int32) (m0 : ab_Mm) : Option (Int32 × ab_Mm) :=
  if 0 ≤ l1 then
    bb_X7_runEnd_9  l0 l2 l1 m0
  else
    bb_X7_runEnd_9  l0 l2 (0 : Int32) m0
def bb_X7_advance_177   (m0 : ab_Mm) : Option (Unit × ab_Mm) :=
  some ((), m0)
def bb_X7_advance_174  (s0 : Nat) (s1 : Int32) (m0 : ab_Mm) : Option (Unit × ab_Mm) :=
  (ab_pI m0 7 s0 9 s1).bind fun m1 =>
  bb_X7_advance_177   m1
def bb_X7_advance_173  (s0 : Nat) (m0 : ab_Mm) : Option (Unit × ab_Mm) :=
  bb_X7_advance_174  s0 (3 : Int32) m0
def bb_X7_advance_169  (l1 : Int32) (s0 : Nat) (m0 : ab_Mm) : Option (Unit × ab_Mm) :=
  bb_X7_advance_174  s0 l1 m0
def bb_X7_advance_123  (l0 : Nat) (l1 : Int32) (s0 : Int32) (m0 : ab_Mm) : Option (Unit × ab_Mm) :=
  if l1 = (4 : Int32) then
    (ab_fR m0 7 l0 0).bind fun v3 =>
    (ab_fI m0 7 l0 8).bind fun v4 =>
    (ab_ld m0 2 v3 v4).bind fun v5 =>
    (ab_pI m0 7 l0 9 v5).bind fun m6 =>
    bb_X7_advance_177   m6
  else
    (ab_fI m0 7 l0 7).bind fun v1 =>
    (ab_fI m0 7 l0 8).bind fun v2 =>
    if s0 < (v1 - v2) then
      bb_X7_advance_173  l0 m0
    else
      if l1 = (1 : Int32) then
        bb_X7_advance_169  l1 l0 m0
      else
        if l1 = (2 : Int32) then
          bb_X7_advance_169  l1 l0 m0
        else
          bb_X7_advance_173  l0 m0
def bb_X7_advance_109  (l0 : Nat) (l1 : Int32) (s0 : Nat) (s1 : Int32) (m0 : ab_Mm) : Option (Unit × ab_Mm) :=
  (ab_pI m0 7 s0 7 s1).bind fun m1 =>
  if l1 = (1 : Int32) then
    bb_X7_advance_123  l0 l1 (8 : Int32) m1
  else
    bb_X7_advance_123  l0 l1 (4 : Int32) m1
def bb_X7_advance_91  (l0 : Nat) (l1 : Int32) (s0 : Nat) (m0 : ab_Mm) : Option (Unit × ab_Mm) :=
  (ab_fI m0 7 l0 8).bind fun v1 =>
  (ab_rc m0 7 l0).bind fun _ =>
  (dd_X7_runEnd l0 v1 l1 m0).bind fun q2 =>
  bb_X7_advance_109  l0 l1 s0 q2.1 q2.2
def bb_X7_advance_48  (l0 : Nat) (m0 : ab_Mm) : Option (Unit × ab_Mm) :=
  (ab_pI m0 7 l0 9 (0 : Int32)).bind fun m1 =>
  (ab_fI m1 7 l0 6).bind fun v2 =>
  (ab_pI m1 7 l0 8 v2).bind fun m3 =>
  (ab_fI m3 7 l0 6).bind fun v4 =>
  (ab_pI m3 7 l0 7 v4).bind fun m5 =>
  some ((), m5)
def dd_X7_advance  (l0 : Nat) (m0 : ab_Mm) : Option (Unit × ab_Mm) :=
  (ab_fI m0 7 l0 7).bind fun v1 =>
  (ab_rc m0 7 l0).bind fun _ =>
  (dd_X7_runEnd l0 v1 (5 : Int32) m0).bind fun q2 =>
  (ab_pI q2.2 7 l0 8 q2.1).bind fun m3 =>
  (ab_fI m3 7 l0 8).bind fun v4 =>
  (ab_fI m3 7 l0 6).bind fun v5 =>
  if v5 ≤ v4 then
    bb_X7_advance_48  l0 m3
  else
    (ab_fI m3 7 l0 8).bind fun v6 =>
    (ab_fR m3 7 l0 0).bind fun v7 =>
    (ab_len m3 2 v7).bind fun v8 =>
    if v8 ≤ v6 then
      bb_X7_advance_48  l0 m3
    else
      (ab_fI m3 7 l0 8).bind fun v9 =>
      (ab_fR m3 7 l0 2).bind fun v10 =>
      (ab_len m3 2 v10).bind fun v11 =>
      if v9 < v11 then
        (ab_fR m3 7 l0 2).bind fun v12 =>
        (ab_fI m3 7 l0 8).bind fun v13 =>
        (ab_ld m3 2 v12 v13).bind fun v14 =>
        if v14 = (1 : Int32) then
          bb_X7_advance_91  l0 v14 l0 m3
        else
          if v14 = (2 : Int32) then
            bb_X7_advance_91  l0 v14 l0 m3
          else
            (ab_fI m3 7 l0 8).bind fun v15 =>
            bb_X7_advance_109  l0 v14 l0 (v15 + (1 : Int32)) m3
      else
        bb_X7_advance_48  l0 m3
def bb_J0_coder_7d493_14  (s0 : Int32) (m0 : ab_Mm) : Option (Int32 × ab_Mm) :=
  if ¬ (s0.toInt8.toInt32 = s0) then none else
  some (s0, m0)
def dd_J0_coder_7d493  (l0 : Nat) (m0 : ab_Mm) : Option (Int32 × ab_Mm) :=
  if (1 : Int32) = 0 then
    bb_J0_coder_7d493_14  (1 : Int32) m0
  else
    (ab_sc l0).bind fun v1 =>
    bb_J0_coder_7d493_14  v1 m0
def dd_J0_length_8abf5  (l0 : Nat) (m0 : ab_Mm) : Option (Int32 × ab_Mm) :=
  (ab_sv l0).bind fun v1 =>
  (ab_sl1 v1).bind fun v2 =>
  (ab_rs l0).bind fun _ =>
  (dd_J0_coder_7d493 l0 m0).bind fun q3 =>
  some ((v2 >>> (q3.1 &&& 31)), q3.2)
def bb_J0_isLatin1_aae02_18  (s0 : Int32) (m0 : ab_Mm) : Option (Int32 × ab_Mm) :=
  if ¬ (s0 &&& 1 = s0) then none else
  some (s0, m0)
def bb_J0_isLatin1_aae02_17   (m0 : ab_Mm) : Option (Int32 × ab_Mm) :=
  bb_J0_isLatin1_aae02_18  (0 : Int32) m0
def dd_J0_isLatin1_aae02  (l0 : Nat) (m0 : ab_Mm) : Option (Int32 × ab_Mm) :=
  if (1 : Int32) = 0 then
    bb_J0_isLatin1_aae02_17   m0
  else
    (ab_sc l0).bind fun v1 =>
    if v1 = 0 then
      bb_J0_isLatin1_aae02_18  (1 : Int32) m0
    else
      bb_J0_isLatin1_aae02_17   m0
def dd_J1_charAt_3b067  (l0 : Nat) (l1 : Int32) (m0 : ab_Mm) : Option (Int32 × ab_Mm) :=
  (ab_sl1 l0).bind fun v1 =>
  (ab_ck l1 v1).bind fun _ =>
  (ab_sb l0 l1).bind fun v2 =>
  if ¬ ((((v2 &&& (255 : Int32)).toUInt32 % 65536).toInt32).toUInt32.toUInt16.toUInt32.toInt32 = ((v2 &&& (255 : Int32)).toUInt32 % 65536).toInt32) then none else
  some (((v2 &&& (255 : Int32)).toUInt32 % 65536).toInt32, m0)
def dd_J0_charAt_5068e  (l0 : Nat) (l1 : Int32) (m0 : ab_Mm) : Option (Int32 × ab_Mm) :=
  (ab_rs l0).bind fun _ =>
  (dd_J0_isLatin1_aae02 l0 m0).bind fun q1 =>
  if q1.1 = 0 then
    none
  else
    (ab_sv l0).bind fun v2 =>
    (dd_J1_charAt_3b067 v2 l1 q1.2).bind fun q3 =>
    if ¬ (q3.1.toUInt32.toUInt16.toUInt32.toInt32 = q3.1) then none else
    some (q3.1, q3.2)
def bb_X7_isWord_70   (m0 : ab_Mm) : Option (Int32 × ab_Mm) :=
  some ((0 : Int32), m0)
def bb_X7_isWord_28  : Nat → Nat → Nat → Int32 → ab_Mm → Option (Int32 × ab_Mm)
  | 0, _, _, _, _ => none
  | n + 1, l0, l1, l2, m0 =>
    (ab_rs l1).bind fun _ =>
    (dd_J0_length_8abf5 l1 m0).bind fun q1 =>
    if q1.1 ≤ l2 then
      some ((1 : Int32), q1.2)
    else
      (ab_fI q1.2 7 l0 8).bind fun v2 =>
      if (v2 + l2) < 0 then
        bb_X7_isWord_70   q1.2
      else
        (ab_fR q1.2 7 l0 0).bind fun v3 =>
        (ab_len q1.2 2 v3).bind fun v4 =>
        if v4 ≤ (v2 + l2) then
          bb_X7_isWord_70   q1.2
        else
          (ab_fR q1.2 7 l0 0).bind fun v5 =>
          (ab_ld q1.2 2 v5 (v2 + l2)).bind fun v6 =>
          (ab_rs l1).bind fun _ =>
          (dd_J0_charAt_5068e l1 l2 q1.2).bind fun q7 =>
          if v6 = q7.1 then
            bb_X7_isWord_28  n l0 l1 (l2 + (1 : Int32)) q7.2
          else
            bb_X7_isWord_70   q7.2
def bb_X7_isWord_24   (m0 : ab_Mm) : Option (Int32 × ab_Mm) :=
  some ((0 : Int32), m0)
def dd_X7_isWord  (l0 : Nat) (l1 : Nat) (m0 : ab_Mm) : Option (Int32 × ab_Mm) :=
  (ab_fI m0 7 l0 9).bind fun v1 =>
  if v1 = (1 : Int32) then
    (ab_fI m0 7 l0 7).bind fun v2 =>
    (ab_fI m0 7 l0 8).bind fun v3 =>
    (ab_rs l1).bind fun _ =>
    (dd_J0_length_8abf5 l1 m0).bind fun q4 =>
    if (v2 - v3) = q4.1 then
      bb_X7_isWord_28  ab_fu l0 l1 (0 : Int32) q4.2
    else
      bb_X7_isWord_24   q4.2
  else
    bb_X7_isWord_24   m0
def bb_X10_isFull_16  (s0 : Int32) (m0 : ab_Mm) : Option (Int32 × ab_Mm) :=
  if ¬ (s0 &&& 1 = s0) then none else
  some (s0, m0)
def dd_X10_isFull  (l0 : Nat) (m0 : ab_Mm) : Option (Int32 × ab_Mm) :=
  (ab_fI m0 10 l0 3).bind fun v1 =>
  (ab_fI m0 10 l0 0).bind fun v2 =>
  if v1 < v2 then
    bb_X10_isFull_16  (0 : Int32) m0
  else
    bb_X10_isFull_16  (1 : Int32) m0
def dd_X7_fail  (l0 : Nat) (l1 : Int32) (m0 : ab_Mm) : Option (Int32 × ab_Mm) :=
  (ab_pI m0 7 l0 5 l1).bind fun m1 =>
  (ab_fI m1 7 l0 8).bind fun v2 =>
  (ab_pI m1 7 l0 4 v2).bind fun m3 =>
  some ((0 : Int32), m3)
def dd_X7_opens  (l0 : Nat) (l1 : Nat) (m0 : ab_Mm) : Option (Int32 × ab_Mm) :=
  (ab_rc m0 10 l1).bind fun _ =>
  (dd_X10_isFull l1 m0).bind fun q1 =>
  if q1.1 = 0 then
    (ab_rc q1.2 7 l0).bind fun _ =>
    (dd_X7_advance l0 q1.2).bind fun q2 =>
    some ((1 : Int32), q2.2)
  else
    (ab_rc q1.2 7 l0).bind fun _ =>
    (dd_X7_fail l0 (4 : Int32) q1.2).bind fun q3 =>
    if ¬ (q3.1 &&& 1 = q3.1) then none else
    some (q3.1, q3.2)
def bb_X7_number_49  (l1 : Int32) (m0 : ab_Mm) : Option (Int32 × ab_Mm) :=
  some (l1, m0)
def bb_X7_number_11  : Nat → Nat → Int32 → Int32 → ab_Mm → Option (Int32 × ab_Mm)
  | 0, _, _, _, _ => none
  | n + 1, l0, l1, l2, m0 =>
    (ab_fI m0 7 l0 7).bind fun v1 =>
    if v1 ≤ l2 then
      bb_X7_number_49  l1 m0
    else
      (ab_fR m0 7 l0 0).bind fun v2 =>
      (ab_len m0 2 v2).bind fun v3 =>
      if v3 ≤ l2 then
        bb_X7_number_49  l1 m0
      else
        (ab_fR m0 7 l0 0).bind fun v4 =>
        (ab_ld m0 2 v4 l2).bind fun v5 =>
        bb_X7_number_11  n l0 (((l1 * (10 : Int32)) + v5) - (48 : Int32)) (l2 + (1 : Int32)) m0
def dd_X7_number  (l0 : Nat) (m0 : ab_Mm) : Option (Int32 × ab_Mm) :=
  (ab_fI m0 7 l0 8).bind fun v1 =>
  bb_X7_number_11  ab_fu l0 (0 : Int32) (if (0 : Int32) < v1 then v1 else (0 : Int32)) m0
def bb_X7_puts_33  (l0 : Nat) (m0 : ab_Mm) : Option (Int32 × ab_Mm) :=
  (ab_rc m0 7 l0).bind fun _ =>
  (dd_X7_fail l0 (3 : Int32) m0).bind fun q1 =>
  if ¬ (q1.1 &&& 1 = q1.1) then none else
  some (q1.1, q1.2)
def dd_X7_puts  (l0 : Nat) (l1 : Nat) (l2 : Int32) (l3 : Int32) (l4 : Int32) (m0 : ab_Mm) : Option (Int32 × ab_Mm) :=
  (ab_fI m0 7 l0 9).bind fun v1 =>
  if v1 = (2 : Int32) then
    (ab_rc m0 7 l0).bind fun _ =>
    (dd_X7_number l0 m0).bind fun q2 =>
    if q2.1 < l3 then
      bb_X7_puts_33  l0 q2.2
    else
      if q2.1 ≤ l4 then
        (ab_fI q2.2 10 l1 3).bind fun v3 =>
        (ab_rc q2.2 10 l1).bind fun _ =>
        (dd_X10_set l1 v3 l2 q2.1 q2.2).bind fun q4 =>
        (ab_rc q4.2 7 l0).bind fun _ =>
        (dd_X7_advance l0 q4.2).bind fun q5 =>
        some ((1 : Int32), q5.2)
      else
        bb_X7_puts_33  l0 q2.2
  else
    (ab_rc m0 7 l0).bind fun _ =>
    (dd_X7_fail l0 (1 : Int32) m0).bind fun q6 =>
    if ¬ (q6.1 &&& 1 = q6.1) then none else
    some (q6.1, q6.2)
def dd_X7_keeps  (l0 : Nat) (l1 : Nat) (m0 : ab_Mm) : Option (Int32 × ab_Mm) :=
  (ab_fI m0 10 l1 3).bind fun v1 =>
  (ab_rc m0 10 l1).bind fun _ =>
  (dd_X10_insertRow l1 v1 m0).bind fun q2 =>
  some ((1 : Int32), q2.2)
def bb_X7_reservation_125  (s0 : Int32) (m0 : ab_Mm) : Option (Int32 × ab_Mm) :=
  if ¬ (s0 &&& 1 = s0) then none else
  some (s0, m0)
def bb_X7_reservation_124   (m0 : ab_Mm) : Option (Int32 × ab_Mm) :=
  bb_X7_reservation_125  (0 : Int32) m0
def dd_X7_reservation  (l0 : Nat) (l1 : Nat) (m0 : ab_Mm) : Option (Int32 × ab_Mm) :=
  (ab_rc m0 7 l0).bind fun _ =>
  (dd_X7_opens l0 l1 m0).bind fun q1 =>
  if q1.1 = 0 then
    bb_X7_reservation_124   q1.2
  else
    (ab_fR q1.2 7 l0 3).bind fun v2 =>
    (ab_fR q1.2 1 v2 2).bind fun v3 =>
    (ab_fI q1.2 10 v3 3).bind fun v4 =>
    (ab_rc q1.2 7 l0).bind fun _ =>
    (dd_X7_puts l0 l1 (0 : Int32) (0 : Int32) (v4 - (1 : Int32)) q1.2).bind fun q5 =>
    if q5.1 = 0 then
      bb_X7_reservation_124   q5.2
    else
      (ab_fR q5.2 7 l0 3).bind fun v6 =>
      (ab_fR q5.2 1 v6 1).bind fun v7 =>
      (ab_fI q5.2 10 v7 3).bind fun v8 =>
      (ab_rc q5.2 7 l0).bind fun _ =>
      (dd_X7_puts l0 l1 (1 : Int32) (0 : Int32) (v8 - (1 : Int32)) q5.2).bind fun q9 =>
      if q9.1 = 0 then
        bb_X7_reservation_124   q9.2
      else
        (ab_rc q9.2 7 l0).bind fun _ =>
        (dd_X7_puts l0 l1 (2 : Int32) (1 : Int32) (9 : Int32) q9.2).bind fun q10 =>
        if q10.1 = 0 then
          bb_X7_reservation_124   q10.2
        else
          (ab_rc q10.2 7 l0).bind fun _ =>
          (dd_X7_puts l0 l1 (3 : Int32) (0 : Int32) (9998 : Int32) q10.2).bind fun q11 =>
          if q11.1 = 0 then
            bb_X7_reservation_124   q11.2
          else
            (ab_fI q11.2 10 l1 3).bind fun v12 =>
            (ab_rc q11.2 10 l1).bind fun _ =>
            (dd_X10_get l1 v12 (3 : Int32) q11.2).bind fun q13 =>
            (ab_rc q13.2 7 l0).bind fun _ =>
            (dd_X7_puts l0 l1 (4 : Int32) (q13.1 + (1 : Int32)) (9999 : Int32) q13.2).bind fun q14 =>
            if q14.1 = 0 then
              bb_X7_reservation_124   q14.2
            else
              (ab_rc q14.2 7 l0).bind fun _ =>
              (dd_X7_puts l0 l1 (5 : Int32) (0 : Int32) (100 : Int32) q14.2).bind fun q15 =>
              if q15.1 = 0 then
                bb_X7_reservation_124   q15.2
              else
                (ab_rc q15.2 7 l0).bind fun _ =>
                (dd_X7_keeps l0 l1 q15.2).bind fun q16 =>
                if q16.1 = 0 then
                  bb_X7_reservation_124   q16.2
                else
                  bb_X7_reservation_125  (1 : Int32) q16.2
def dd_X7_isFirst  (l0 : Nat) (l1 : Int32) (m0 : ab_Mm) : Option (Int32 × ab_Mm) :=
  (ab_fI m0 7 l0 10).bind fun v1 =>
  if (v1 &&& l1) = 0 then
    (ab_fI m0 7 l0 10).bind fun v2 =>
    (ab_pI m0 7 l0 10 (v2 ||| l1)).bind fun m3 =>
    (ab_rc m3 7 l0).bind fun _ =>
    (dd_X7_advance l0 m3).bind fun q4 =>
    some ((1 : Int32), q4.2)
  else
    (ab_rc m0 7 l0).bind fun _ =>
    (dd_X7_fail l0 (2 : Int32) m0).bind fun q5 =>
    if ¬ (q5.1 &&& 1 = q5.1) then none else
    some (q5.1, q5.2)
def dd_X7_takes  (l0 : Nat) (l1 : Int32) (m0 : ab_Mm) : Option (Int32 × ab_Mm) :=
  (ab_fI m0 7 l0 9).bind fun v1 =>
  if v1 = l1 then
    (ab_rc m0 7 l0).bind fun _ =>
    (dd_X7_advance l0 m0).bind fun q2 =>
    some ((1 : Int32), q2.2)
  else
    (ab_rc m0 7 l0).bind fun _ =>
    (dd_X7_fail l0 (1 : Int32) m0).bind fun q3 =>
    if ¬ (q3.1 &&& 1 = q3.1) then none else
    some (q3.1, q3.2)
def bb_X7_name_50  (s0 : Int32) (m0 : ab_Mm) : Option (Int32 × ab_Mm) :=
  some (s0, m0)
def dd_X7_name  (l0 : Nat) (m0 : ab_Mm) : Option (Int32 × ab_Mm) :=
  (ab_rc m0 7 l0).bind fun _ =>
  (dd_X7_isWord l0 1016 m0).bind fun q1 =>
  if q1.1 = 0 then
    (ab_rc q1.2 7 l0).bind fun _ =>
    (dd_X7_isWord l0 1018 q1.2).bind fun q2 =>
    if q2.1 = 0 then
      (ab_rc q2.2 7 l0).bind fun _ =>
      (dd_X7_isWord l0 1020 q2.2).bind fun q3 =>
      if q3.1 = 0 then
        (ab_rc q3.2 7 l0).bind fun _ =>
        (dd_X7_isWord l0 1022 q3.2).bind fun q4 =>
        if q4.1 = 0 then
          bb_X7_name_50  (0 : Int32) q4.2
        else
          bb_X7_name_50  (-4 : Int32) q4.2
      else
        some ((-3 : Int32), q3.2)
    else
      some ((-2 : Int32), q2.2)
  else
    some ((-1 : Int32), q1.2)
def bb_X7_factor_87 (c_X7_factor : Nat → Int32 → ab_Mm → Option (Int32 × ab_Mm)) (c_X7_sum : Nat → Int32 → ab_Mm → Option (Int32 × ab_Mm)) (l0 : Nat) (l2 : Int32) (m0 : ab_Mm) : Option (Int32 × ab_Mm) :=
  (ab_fR m0 7 l0 3).bind fun v1 =>
  (ab_fR m0 1 v1 5).bind fun v2 =>
  (ab_rc m0 9 v2).bind fun _ =>
  (dd_X9_add v2 l2 m0).bind fun q3 =>
  (ab_rc q3.2 7 l0).bind fun _ =>
  (dd_X7_advance l0 q3.2).bind fun q4 =>
  some ((1 : Int32), q4.2)
def bb_X7_factor_68 (c_X7_factor : Nat → Int32 → ab_Mm → Option (Int32 × ab_Mm)) (c_X7_sum : Nat → Int32 → ab_Mm → Option (Int32 × ab_Mm)) (l0 : Nat) (s0 : Int32) (m0 : ab_Mm) : Option (Int32 × ab_Mm) :=
  if s0 = 0 then
    (ab_fI m0 7 l0 9).bind fun v1 =>
    if v1 = (2 : Int32) then
      bb_X7_factor_87 c_X7_factor c_X7_sum l0 s0 m0
    else
      (ab_rc m0 7 l0).bind fun _ =>
      (dd_X7_fail l0 (1 : Int32) m0).bind fun q2 =>
      if ¬ (q2.1 &&& 1 = q2.1) then none else
      some (q2.1, q2.2)
  else
    bb_X7_factor_87 c_X7_factor c_X7_sum l0 s0 m0
def bb_X7_factor_48 (c_X7_factor : Nat → Int32 → ab_Mm → Option (Int32 × ab_Mm)) (c_X7_sum : Nat → Int32 → ab_Mm → Option (Int32 × ab_Mm)) (s0 : Int32) (m0 : ab_Mm) : Option (Int32 × ab_Mm) :=
  if ¬ (s0 &&& 1 = s0) then none else
  some (s0, m0)
def bb_X7_factor_47 (c_X7_factor : Nat → Int32 → ab_Mm → Option (Int32 × ab_Mm)) (c_X7_sum : Nat → Int32 → ab_Mm → Option (Int32 × ab_Mm))  (m0 : ab_Mm) : Option (Int32 × ab_Mm) :=
  bb_X7_factor_48 c_X7_factor c_X7_sum (0 : Int32) m0
def st_X7_factor (c_X7_factor : Nat → Int32 → ab_Mm → Option (Int32 × ab_Mm)) (c_X7_sum : Nat → Int32 → ab_Mm → Option (Int32 × ab_Mm)) (l0 : Nat) (l1 : Int32) (m0 : ab_Mm) : Option (Int32 × ab_Mm) :=
  (ab_fI m0 7 l0 9).bind fun v1 =>
  if v1 = (40 : Int32) then
    if l1 < (5 : Int32) then
      (ab_rc m0 7 l0).bind fun _ =>
      (dd_X7_advance l0 m0).bind fun q5 =>
      (ab_rc q5.2 7 l0).bind fun _ =>
      (c_X7_sum l0 (l1 + (1 : Int32)) q5.2).bind fun q6 =>
      if q6.1 = 0 then
        bb_X7_factor_47 c_X7_factor c_X7_sum  q6.2
      else
        (ab_rc q6.2 7 l0).bind fun _ =>
        (dd_X7_takes l0 (41 : Int32) q6.2).bind fun q7 =>
        if q7.1 = 0 then
          bb_X7_factor_47 c_X7_factor c_X7_sum  q7.2
        else
          bb_X7_factor_48 c_X7_factor c_X7_sum (1 : Int32) q7.2
    else
      (ab_rc m0 7 l0).bind fun _ =>
      (dd_X7_fail l0 (4 : Int32) m0).bind fun q8 =>
      if ¬ (q8.1 &&& 1 = q8.1) then none else
      some (q8.1, q8.2)
  else
    (ab_fI m0 7 l0 9).bind fun v2 =>
    if v2 = (2 : Int32) then
      (ab_rc m0 7 l0).bind fun _ =>
      (dd_X7_number l0 m0).bind fun q4 =>
      bb_X7_factor_68 c_X7_factor c_X7_sum l0 q4.1 q4.2
    else
      (ab_rc m0 7 l0).bind fun _ =>
      (dd_X7_name l0 m0).bind fun q3 =>
      bb_X7_factor_68 c_X7_factor c_X7_sum l0 q3.1 q3.2
def bb_X7_sum_146 (c_X7_factor : Nat → Int32 → ab_Mm → Option (Int32 × ab_Mm)) (c_X7_sum : Nat → Int32 → ab_Mm → Option (Int32 × ab_Mm)) (l3 : Int32) (m0 : ab_Mm) : Option (Int32 × ab_Mm) :=
  if ¬ (l3 &&& 1 = l3) then none else
  some (l3, m0)
def bb_X7_sum_140 (c_X7_factor : Nat → Int32 → ab_Mm → Option (Int32 × ab_Mm)) (c_X7_sum : Nat → Int32 → ab_Mm → Option (Int32 × ab_Mm)) (r11 : Nat → Int32 → Int32 → Int32 → Int32 → ab_Mm → Option (Int32 × ab_Mm)) (l0 : Nat) (l1 : Int32) (l2 : Int32) (l3 : Int32) (l4 : Int32) (m0 : ab_Mm) : Option (Int32 × ab_Mm) :=
  r11 l0 l1 l2 l3 (l4 + (1 : Int32)) m0
def bb_X7_sum_106 (c_X7_factor : Nat → Int32 → ab_Mm → Option (Int32 × ab_Mm)) (c_X7_sum : Nat → Int32 → ab_Mm → Option (Int32 × ab_Mm)) (r11 : Nat → Int32 → Int32 → Int32 → Int32 → ab_Mm → Option (Int32 × ab_Mm)) (l0 : Nat) (l1 : Int32) (l2 : Int32) (l4 : Int32) (l5 : Int32) (l6 : Int32) (m0 : ab_Mm) : Option (Int32 × ab_Mm) :=
  (ab_rc m0 7 l0).bind fun _ =>
  (dd_X7_advance l0 m0).bind fun q1 =>
  (ab_rc q1.2 7 l0).bind fun _ =>
  (c_X7_factor l0 l1 q1.2).bind fun q2 =>
  if l6 = 0 then
    bb_X7_sum_140 c_X7_factor c_X7_sum r11 l0 l1 l5 q2.1 l4 q2.2
  else
    (ab_fR q2.2 7 l0 3).bind fun v3 =>
    (ab_fR q2.2 1 v3 5).bind fun v4 =>
    (ab_rc q2.2 9 v4).bind fun _ =>
    (dd_X9_add v4 (-l5) q2.2).bind fun q5 =>
    bb_X7_sum_140 c_X7_factor c_X7_sum r11 l0 l1 l2 q2.1 l4 q5.2
def bb_X7_sum_94 (c_X7_factor : Nat → Int32 → ab_Mm → Option (Int32 × ab_Mm)) (c_X7_sum : Nat → Int32 → ab_Mm → Option (Int32 × ab_Mm)) (r11 : Nat → Int32 → Int32 → Int32 → Int32 → ab_Mm → Option (Int32 × ab_Mm)) (l0 : Nat) (l1 : Int32) (l2 : Int32) (l4 : Int32) (l5 : Int32) (l6 : Int32) (l7 : Int32) (m0 : ab_Mm) : Option (Int32 × ab_Mm) :=
  if l6 = 0 then
    if l7 = 0 then
      some ((1 : Int32), m0)
    else
      bb_X7_sum_106 c_X7_factor c_X7_sum r11 l0 l1 l2 l4 l5 l6 m0
  else
    bb_X7_sum_106 c_X7_factor c_X7_sum r11 l0 l1 l2 l4 l5 l6 m0
def bb_X7_sum_69 (c_X7_factor : Nat → Int32 → ab_Mm → Option (Int32 × ab_Mm)) (c_X7_sum : Nat → Int32 → ab_Mm → Option (Int32 × ab_Mm)) (r11 : Nat → Int32 → Int32 → Int32 → Int32 → ab_Mm → Option (Int32 × ab_Mm)) (l0 : Nat) (l1 : Int32) (l2 : Int32) (l4 : Int32) (l5 : Int32) (l6 : Int32) (s0 : Int32) (m0 : ab_Mm) : Option (Int32 × ab_Mm) :=
  if l6 = 0 then
    if l2 = 0 then
      bb_X7_sum_94 c_X7_factor c_X7_sum r11 l0 l1 l2 l4 l5 l6 s0 m0
    else
      (ab_fR m0 7 l0 3).bind fun v1 =>
      (ab_fR m0 1 v1 5).bind fun v2 =>
      (ab_rc m0 9 v2).bind fun _ =>
      (dd_X9_add v2 (-l2) m0).bind fun q3 =>
      bb_X7_sum_94 c_X7_factor c_X7_sum r11 l0 l1 (0 : Int32) l4 l5 l6 s0 q3.2
  else
    bb_X7_sum_94 c_X7_factor c_X7_sum r11 l0 l1 l2 l4 l5 l6 s0 m0
def bb_X7_sum_64 (c_X7_factor : Nat → Int32 → ab_Mm → Option (Int32 × ab_Mm)) (c_X7_sum : Nat → Int32 → ab_Mm → Option (Int32 × ab_Mm)) (r11 : Nat → Int32 → Int32 → Int32 → Int32 → ab_Mm → Option (Int32 × ab_Mm)) (l0 : Nat) (l1 : Int32) (l2 : Int32) (l4 : Int32) (l5 : Int32) (l6 : Int32) (m0 : ab_Mm) : Option (Int32 × ab_Mm) :=
  bb_X7_sum_69 c_X7_factor c_X7_sum r11 l0 l1 l2 l4 l5 l6 (1 : Int32) m0
def bb_X7_sum_48 (c_X7_factor : Nat → Int32 → ab_Mm → Option (Int32 × ab_Mm)) (c_X7_sum : Nat → Int32 → ab_Mm → Option (Int32 × ab_Mm)) (r11 : Nat → Int32 → Int32 → Int32 → Int32 → ab_Mm → Option (Int32 × ab_Mm)) (l0 : Nat) (l1 : Int32) (l2 : Int32) (l4 : Int32) (l5 : Int32) (s0 : Int32) (m0 : ab_Mm) : Option (Int32 × ab_Mm) :=
  if l5 = (43 : Int32) then
    bb_X7_sum_64 c_X7_factor c_X7_sum r11 l0 l1 l2 l4 l5 s0 m0
  else
    if l5 = (45 : Int32) then
      bb_X7_sum_64 c_X7_factor c_X7_sum r11 l0 l1 l2 l4 l5 s0 m0
    else
      bb_X7_sum_69 c_X7_factor c_X7_sum r11 l0 l1 l2 l4 l5 s0 (0 : Int32) m0
def bb_X7_sum_43 (c_X7_factor : Nat → Int32 → ab_Mm → Option (Int32 × ab_Mm)) (c_X7_sum : Nat → Int32 → ab_Mm → Option (Int32 × ab_Mm)) (r11 : Nat → Int32 → Int32 → Int32 → Int32 → ab_Mm → Option (Int32 × ab_Mm)) (l0 : Nat) (l1 : Int32) (l2 : Int32) (l4 : Int32) (l5 : Int32) (m0 : ab_Mm) : Option (Int32 × ab_Mm) :=
  bb_X7_sum_48 c_X7_factor c_X7_sum r11 l0 l1 l2 l4 l5 (1 : Int32) m0
def bb_X7_sum_11 (c_X7_factor : Nat → Int32 → ab_Mm → Option (Int32 × ab_Mm)) (c_X7_sum : Nat → Int32 → ab_Mm → Option (Int32 × ab_Mm)) : Nat → Nat → Int32 → Int32 → Int32 → Int32 → ab_Mm → Option (Int32 × ab_Mm)
  | 0, _, _, _, _, _, _ => none
  | n + 1, l0, l1, l2, l3, l4, m0 =>
    if (800 : Int32) < l4 then
      bb_X7_sum_146 c_X7_factor c_X7_sum l3 m0
    else
      if l3 = 0 then
        bb_X7_sum_146 c_X7_factor c_X7_sum l3 m0
      else
        (ab_fI m0 7 l0 9).bind fun v1 =>
        if v1 = (42 : Int32) then
          bb_X7_sum_43 c_X7_factor c_X7_sum (bb_X7_sum_11 c_X7_factor c_X7_sum n) l0 l1 l2 l4 v1 m0
        else
          if v1 = (47 : Int32) then
            bb_X7_sum_43 c_X7_factor c_X7_sum (bb_X7_sum_11 c_X7_factor c_X7_sum n) l0 l1 l2 l4 v1 m0
          else
            bb_X7_sum_48 c_X7_factor c_X7_sum (bb_X7_sum_11 c_X7_factor c_X7_sum n) l0 l1 l2 l4 v1 (0 : Int32) m0
def st_X7_sum (c_X7_factor : Nat → Int32 → ab_Mm → Option (Int32 × ab_Mm)) (c_X7_sum : Nat → Int32 → ab_Mm → Option (Int32 × ab_Mm)) (l0 : Nat) (l1 : Int32) (m0 : ab_Mm) : Option (Int32 × ab_Mm) :=
  (ab_rc m0 7 l0).bind fun _ =>
  (c_X7_factor l0 l1 m0).bind fun q1 =>
  bb_X7_sum_11 c_X7_factor c_X7_sum ab_fu l0 l1 (0 : Int32) q1.1 (0 : Int32) q1.2
def dg_X7_factor : Nat → (Nat → Int32 → ab_Mm → Option (Int32 × ab_Mm)) × (Nat → Int32 → ab_Mm → Option (Int32 × ab_Mm))
  | 0 => (fun _ _ _ => none, fun _ _ _ => none)
  | n + 1 => (st_X7_factor ((dg_X7_factor n).1) ((dg_X7_factor n).2), st_X7_sum ((dg_X7_factor n).1) ((dg_X7_factor n).2))
def dd_X7_factor (n : Nat) : Nat → Int32 → ab_Mm → Option (Int32 × ab_Mm) := (dg_X7_factor n).1
def dd_X7_sum (n : Nat) : Nat → Int32 → ab_Mm → Option (Int32 × ab_Mm) := (dg_X7_factor n).2
def bb_X7_statement_427  (s0 : Int32) (m0 : ab_Mm) : Option (Int32 × ab_Mm) :=
  if ¬ (s0 &&& 1 = s0) then none else
  some (s0, m0)
def bb_X7_statement_426   (m0 : ab_Mm) : Option (Int32 × ab_Mm) :=
  bb_X7_statement_427  (0 : Int32) m0
def bb_X7_statement_385  (s0 : Int32) (m0 : ab_Mm) : Option (Int32 × ab_Mm) :=
  if ¬ (s0 &&& 1 = s0) then none else
  some (s0, m0)
def bb_X7_statement_384   (m0 : ab_Mm) : Option (Int32 × ab_Mm) :=
  bb_X7_statement_385  (0 : Int32) m0
def bb_X7_statement_343  (s0 : Int32) (m0 : ab_Mm) : Option (Int32 × ab_Mm) :=
  if ¬ (s0 &&& 1 = s0) then none else
  some (s0, m0)
def bb_X7_statement_342   (m0 : ab_Mm) : Option (Int32 × ab_Mm) :=
  bb_X7_statement_343  (0 : Int32) m0
def bb_X7_statement_302  (s0 : Int32) (m0 : ab_Mm) : Option (Int32 × ab_Mm) :=
  if ¬ (s0 &&& 1 = s0) then none else
  some (s0, m0)
def bb_X7_statement_301   (m0 : ab_Mm) : Option (Int32 × ab_Mm) :=
  bb_X7_statement_302  (0 : Int32) m0
def bb_X7_statement_240  (s0 : Int32) (m0 : ab_Mm) : Option (Int32 × ab_Mm) :=
  if ¬ (s0 &&& 1 = s0) then none else
  some (s0, m0)
def bb_X7_statement_239   (m0 : ab_Mm) : Option (Int32 × ab_Mm) :=
  bb_X7_statement_240  (0 : Int32) m0
def bb_X7_statement_178  (s0 : Int32) (m0 : ab_Mm) : Option (Int32 × ab_Mm) :=
  if ¬ (s0 &&& 1 = s0) then none else
  some (s0, m0)
def bb_X7_statement_177   (m0 : ab_Mm) : Option (Int32 × ab_Mm) :=
  bb_X7_statement_178  (0 : Int32) m0
def bb_X7_statement_79  (s0 : Int32) (m0 : ab_Mm) : Option (Int32 × ab_Mm) :=
  if ¬ (s0 &&& 1 = s0) then none else
  some (s0, m0)
def bb_X7_statement_78   (m0 : ab_Mm) : Option (Int32 × ab_Mm) :=
  bb_X7_statement_79  (0 : Int32) m0
def dd_X7_statement  (l0 : Nat) (m0 : ab_Mm) : Option (Int32 × ab_Mm) :=
  (ab_rc m0 7 l0).bind fun _ =>
  (dd_X7_isWord l0 1000 m0).bind fun q1 =>
  if q1.1 = 0 then
    (ab_rc q1.2 7 l0).bind fun _ =>
    (dd_X7_isWord l0 1002 q1.2).bind fun q2 =>
    if q2.1 = 0 then
      (ab_rc q2.2 7 l0).bind fun _ =>
      (dd_X7_isWord l0 1004 q2.2).bind fun q3 =>
      if q3.1 = 0 then
        (ab_rc q3.2 7 l0).bind fun _ =>
        (dd_X7_isWord l0 1006 q3.2).bind fun q4 =>
        if q4.1 = 0 then
          (ab_rc q4.2 7 l0).bind fun _ =>
          (dd_X7_isWord l0 1008 q4.2).bind fun q5 =>
          if q5.1 = 0 then
            (ab_rc q5.2 7 l0).bind fun _ =>
            (dd_X7_isWord l0 1010 q5.2).bind fun q6 =>
            if q6.1 = 0 then
              (ab_rc q6.2 7 l0).bind fun _ =>
              (dd_X7_isWord l0 1012 q6.2).bind fun q7 =>
              if q7.1 = 0 then
                (ab_rc q7.2 7 l0).bind fun _ =>
                (dd_X7_isWord l0 1014 q7.2).bind fun q8 =>
                if q8.1 = 0 then
                  (ab_rc q8.2 7 l0).bind fun _ =>
                  (dd_X7_fail l0 (1 : Int32) q8.2).bind fun q9 =>
                  if ¬ (q9.1 &&& 1 = q9.1) then none else
                  some (q9.1, q9.2)
                else
                  (ab_fR q8.2 7 l0 3).bind fun v10 =>
                  (ab_fR q8.2 1 v10 5).bind fun v11 =>
                  (ab_rc q8.2 9 v11).bind fun _ =>
                  (dd_X9_clear v11 q8.2).bind fun q12 =>
                  (ab_rc q12.2 7 l0).bind fun _ =>
                  (dd_X7_isFirst l0 (8 : Int32) q12.2).bind fun q13 =>
                  if q13.1 = 0 then
                    bb_X7_statement_426   q13.2
                  else
                    (ab_rc q13.2 7 l0).bind fun _ =>
                    (dd_X7_sum 30 l0 (0 : Int32) q13.2).bind fun q14 =>
                    if q14.1 = 0 then
                      bb_X7_statement_426   q14.2
                    else
                      bb_X7_statement_427  (1 : Int32) q14.2
              else
                (ab_rc q7.2 7 l0).bind fun _ =>
                (dd_X7_isFirst l0 (4 : Int32) q7.2).bind fun q15 =>
                if q15.1 = 0 then
                  bb_X7_statement_384   q15.2
                else
                  (ab_fR q15.2 7 l0 3).bind fun v16 =>
                  (ab_fR q15.2 1 v16 4).bind fun v17 =>
                  (ab_rc q15.2 7 l0).bind fun _ =>
                  (dd_X7_puts l0 v17 (2 : Int32) (0 : Int32) (400 : Int32) q15.2).bind fun q18 =>
                  if q18.1 = 0 then
                    bb_X7_statement_384   q18.2
                  else
                    bb_X7_statement_385  (1 : Int32) q18.2
            else
              (ab_rc q6.2 7 l0).bind fun _ =>
              (dd_X7_isFirst l0 (2 : Int32) q6.2).bind fun q19 =>
              if q19.1 = 0 then
                bb_X7_statement_342   q19.2
              else
                (ab_fR q19.2 7 l0 3).bind fun v20 =>
                (ab_fR q19.2 1 v20 4).bind fun v21 =>
                (ab_rc q19.2 7 l0).bind fun _ =>
                (dd_X7_puts l0 v21 (1 : Int32) (0 : Int32) (48 : Int32) q19.2).bind fun q22 =>
                if q22.1 = 0 then
                  bb_X7_statement_342   q22.2
                else
                  bb_X7_statement_343  (1 : Int32) q22.2
          else
            (ab_rc q5.2 7 l0).bind fun _ =>
            (dd_X7_isFirst l0 (1 : Int32) q5.2).bind fun q23 =>
            if q23.1 = 0 then
              bb_X7_statement_301   q23.2
            else
              (ab_fR q23.2 7 l0 3).bind fun v24 =>
              (ab_fR q23.2 1 v24 4).bind fun v25 =>
              (ab_rc q23.2 7 l0).bind fun _ =>
              (dd_X7_puts l0 v25 (0 : Int32) (1 : Int32) (100 : Int32) q23.2).bind fun q26 =>
              if q26.1 = 0 then
                bb_X7_statement_301   q26.2
              else
                bb_X7_statement_302  (1 : Int32) q26.2
        else
          (ab_fR q4.2 7 l0 3).bind fun v27 =>
          (ab_fR q4.2 1 v27 3).bind fun v28 =>
          (ab_rc q4.2 7 l0).bind fun _ =>
          (dd_X7_reservation l0 v28 q4.2).bind fun q29 =>
          if ¬ (q29.1 &&& 1 = q29.1) then none else
          some (q29.1, q29.2)
      else
        (ab_fR q3.2 7 l0 3).bind fun v30 =>
        (ab_fR q3.2 1 v30 2).bind fun v31 =>
        (ab_rc q3.2 7 l0).bind fun _ =>
        (dd_X7_opens l0 v31 q3.2).bind fun q32 =>
        if q32.1 = 0 then
          bb_X7_statement_239   q32.2
        else
          (ab_fR q32.2 7 l0 3).bind fun v33 =>
          (ab_fR q32.2 1 v33 2).bind fun v34 =>
          (ab_rc q32.2 7 l0).bind fun _ =>
          (dd_X7_puts l0 v34 (0 : Int32) (0 : Int32) (9999 : Int32) q32.2).bind fun q35 =>
          if q35.1 = 0 then
            bb_X7_statement_239   q35.2
          else
            (ab_fR q35.2 7 l0 3).bind fun v36 =>
            (ab_fR q35.2 1 v36 2).bind fun v37 =>
            (ab_rc q35.2 7 l0).bind fun _ =>
            (dd_X7_keeps l0 v37 q35.2).bind fun q38 =>
            if q38.1 = 0 then
              bb_X7_statement_239   q38.2
            else
              bb_X7_statement_240  (1 : Int32) q38.2
    else
      (ab_fR q2.2 7 l0 3).bind fun v39 =>
      (ab_fR q2.2 1 v39 1).bind fun v40 =>
      (ab_rc q2.2 7 l0).bind fun _ =>
      (dd_X7_opens l0 v40 q2.2).bind fun q41 =>
      if q41.1 = 0 then
        bb_X7_statement_177   q41.2
      else
        (ab_fR q41.2 7 l0 3).bind fun v42 =>
        (ab_fR q41.2 1 v42 1).bind fun v43 =>
        (ab_rc q41.2 7 l0).bind fun _ =>
        (dd_X7_puts l0 v43 (0 : Int32) (1 : Int32) (64 : Int32) q41.2).bind fun q44 =>
        if q44.1 = 0 then
          bb_X7_statement_177   q44.2
        else
          (ab_fR q44.2 7 l0 3).bind fun v45 =>
          (ab_fR q44.2 1 v45 1).bind fun v46 =>
          (ab_rc q44.2 7 l0).bind fun _ =>
          (dd_X7_puts l0 v46 (1 : Int32) (1 : Int32) (256 : Int32) q44.2).bind fun q47 =>
          if q47.1 = 0 then
            bb_X7_statement_177   q47.2
          else
            (ab_fR q47.2 7 l0 3).bind fun v48 =>
            (ab_fR q47.2 1 v48 1).bind fun v49 =>
            (ab_rc q47.2 7 l0).bind fun _ =>
            (dd_X7_puts l0 v49 (2 : Int32) (1 : Int32) (9999 : Int32) q47.2).bind fun q50 =>
            if q50.1 = 0 then
              bb_X7_statement_177   q50.2
            else
              (ab_fR q50.2 7 l0 3).bind fun v51 =>
              (ab_fR q50.2 1 v51 1).bind fun v52 =>
              (ab_rc q50.2 7 l0).bind fun _ =>
              (dd_X7_keeps l0 v52 q50.2).bind fun q53 =>
              if q53.1 = 0 then
                bb_X7_statement_177   q53.2
              else
                bb_X7_statement_178  (1 : Int32) q53.2
  else
    (ab_fR q1.2 7 l0 3).bind fun v54 =>
    (ab_fR q1.2 1 v54 0).bind fun v55 =>
    (ab_rc q1.2 7 l0).bind fun _ =>
    (dd_X7_opens l0 v55 q1.2).bind fun q56 =>
    if q56.1 = 0 then
      bb_X7_statement_78   q56.2
    else
      (ab_fR q56.2 7 l0 3).bind fun v57 =>
      (ab_fR q56.2 1 v57 0).bind fun v58 =>
      (ab_rc q56.2 7 l0).bind fun _ =>
      (dd_X7_puts l0 v58 (0 : Int32) (1 : Int32) (64 : Int32) q56.2).bind fun q59 =>
      if q59.1 = 0 then
        bb_X7_statement_78   q59.2
      else
        (ab_fR q59.2 7 l0 3).bind fun v60 =>
        (ab_fR q59.2 1 v60 0).bind fun v61 =>
        (ab_rc q59.2 7 l0).bind fun _ =>
        (dd_X7_puts l0 v61 (1 : Int32) (1 : Int32) (256 : Int32) q59.2).bind fun q62 =>
        if q62.1 = 0 then
          bb_X7_statement_78   q62.2
        else
          (ab_fR q62.2 7 l0 3).bind fun v63 =>
          (ab_fR q62.2 1 v63 0).bind fun v64 =>
          (ab_rc q62.2 7 l0).bind fun _ =>
          (dd_X7_keeps l0 v64 q62.2).bind fun q65 =>
          if q65.1 = 0 then
            bb_X7_statement_78   q65.2
          else
            bb_X7_statement_79  (1 : Int32) q65.2
def bb_X7_read_153  (l0 : Nat) (m0 : ab_Mm) : Option (Int32 × ab_Mm) :=
  (ab_fI m0 7 l0 5).bind fun v1 =>
  some (v1, m0)
def bb_X7_read_146 (r107 : Nat → Int32 → Int32 → ab_Mm → Option (Int32 × ab_Mm)) (l0 : Nat) (l3 : Int32) (s0 : Int32) (m0 : ab_Mm) : Option (Int32 × ab_Mm) :=
  r107 l0 s0 (l3 + (1 : Int32)) m0
def bb_X7_read_145 (r107 : Nat → Int32 → Int32 → ab_Mm → Option (Int32 × ab_Mm)) (l0 : Nat) (l3 : Int32) (m0 : ab_Mm) : Option (Int32 × ab_Mm) :=
  bb_X7_read_146 r107 l0 l3 (0 : Int32) m0
def bb_X7_read_107  : Nat → Nat → Int32 → Int32 → ab_Mm → Option (Int32 × ab_Mm)
  | 0, _, _, _, _ => none
  | n + 1, l0, l2, l3, m0 =>
    if (800 : Int32) < l3 then
      bb_X7_read_153  l0 m0
    else
      if l2 = 0 then
        bb_X7_read_153  l0 m0
      else
        (ab_fI m0 7 l0 9).bind fun v1 =>
        if v1 = 0 then
          bb_X7_read_153  l0 m0
        else
          (ab_rc m0 7 l0).bind fun _ =>
          (dd_X7_statement l0 m0).bind fun q2 =>
          if q2.1 = 0 then
            bb_X7_read_145 (bb_X7_read_107  n) l0 l3 q2.2
          else
            (ab_rc q2.2 7 l0).bind fun _ =>
            (dd_X7_takes l0 (59 : Int32) q2.2).bind fun q3 =>
            if q3.1 = 0 then
              bb_X7_read_145 (bb_X7_read_107  n) l0 l3 q3.2
            else
              bb_X7_read_146 (bb_X7_read_107  n) l0 l3 (1 : Int32) q3.2
def bb_X7_read_99  (l0 : Nat) (m0 : ab_Mm) : Option (Int32 × ab_Mm) :=
  (ab_rc m0 7 l0).bind fun _ =>
  (dd_X7_advance l0 m0).bind fun q1 =>
  bb_X7_read_107  ab_fu l0 (1 : Int32) (0 : Int32) q1.2
def bb_X7_read_51  : Nat → Nat → Int32 → ab_Mm → Option (Int32 × ab_Mm)
  | 0, _, _, _ => none
  | n + 1, l0, l2, m0 =>
    (ab_fI m0 7 l0 6).bind fun v1 =>
    if v1 ≤ l2 then
      bb_X7_read_99  l0 m0
    else
      (ab_fR m0 7 l0 0).bind fun v2 =>
      (ab_len m0 2 v2).bind fun v3 =>
      if v3 ≤ l2 then
        bb_X7_read_99  l0 m0
      else
        (ab_fR m0 7 l0 2).bind fun v4 =>
        (ab_len m0 2 v4).bind fun v5 =>
        if v5 ≤ l2 then
          bb_X7_read_99  l0 m0
        else
          (ab_fR m0 7 l0 2).bind fun v6 =>
          (ab_fR m0 7 l0 0).bind fun v7 =>
          (ab_ld m0 2 v7 l2).bind fun v8 =>
          (dd_X7_sortOf v8 m0).bind fun q9 =>
          (ab_st q9.2 2 v6 l2 q9.1.toInt8.toInt32.toInt8.toInt32).bind fun m10 =>
          bb_X7_read_51  n l0 (l2 + (1 : Int32)) m10
def dd_X7_read  (l0 : Nat) (l1 : Int32) (m0 : ab_Mm) : Option (Int32 × ab_Mm) :=
  (ab_fR m0 7 l0 3).bind fun v1 =>
  (ab_rc m0 1 v1).bind fun _ =>
  (dd_X1_reset v1 m0).bind fun q2 =>
  (ab_pI q2.2 7 l0 4 (-1 : Int32)).bind fun m3 =>
  (ab_pI m3 7 l0 5 (0 : Int32)).bind fun m4 =>
  (ab_fR m4 7 l0 0).bind fun v5 =>
  (ab_len m4 2 v5).bind fun v6 =>
  (ab_pI m4 7 l0 6 (if (0 : Int32) < (if v6 < l1 then v6 else l1) then (if v6 < l1 then v6 else l1) else (0 : Int32))).bind fun m7 =>
  (ab_pI m7 7 l0 1 (0 : Int32)).bind fun m8 =>
  (ab_pI m8 7 l0 7 (0 : Int32)).bind fun m9 =>
  (ab_pI m9 7 l0 10 (0 : Int32)).bind fun m10 =>
  bb_X7_read_51  ab_fu l0 (0 : Int32) m10
def bb_J7_fill_d0a16_6  : Nat → Nat → Int64 → Int32 → Int32 → ab_Mm → Option (Unit × ab_Mm)
  | 0, _, _, _, _, _ => none
  | n + 1, l0, l1, l3, l4, m0 =>
    if l4 ≤ l3 then
      some ((), m0)
    else
      (ab_stJ m0 l0 l3 l1).bind fun m1 =>
      bb_J7_fill_d0a16_6  n l0 l1 (l3 + (1 : Int32)) l4 m1
def dd_J7_fill_d0a16  (l0 : Nat) (l1 : Int64) (m0 : ab_Mm) : Option (Unit × ab_Mm) :=
  (ab_len m0 4 l0).bind fun v1 =>
  bb_J7_fill_d0a16_6  ab_fu l0 l1 (0 : Int32) v1 m0
def bb_X10_total_4  : Nat → Nat → Int32 → Int32 → Int32 → ab_Mm → Option (Int32 × ab_Mm)
  | 0, _, _, _, _, _ => none
  | n + 1, l0, l1, l2, l3, m0 =>
    (ab_fI m0 10 l0 0).bind fun v1 =>
    if v1 ≤ l3 then
      some (l2, m0)
    else
      (ab_rc m0 10 l0).bind fun _ =>
      (dd_X10_get l0 l3 l1 m0).bind fun q2 =>
      bb_X10_total_4  n l0 l1 (l2 + q2.1) (l3 + (1 : Int32)) q2.2
def dd_X10_total  (l0 : Nat) (l1 : Int32) (m0 : ab_Mm) : Option (Int32 × ab_Mm) :=
  bb_X10_total_4  ab_fu l0 l1 (0 : Int32) (0 : Int32) m0
def bb_X8_setPrices_34  : Nat → Nat → Nat → Int32 → Int32 → ab_Mm → Option (Unit × ab_Mm)
  | 0, _, _, _, _, _ => none
  | n + 1, l0, l1, l3, l4, m0 =>
    (ab_fR m0 1 l1 1).bind fun v1 =>
    (ab_fI m0 10 v1 3).bind fun v2 =>
    if v2 ≤ l4 then
      some ((), m0)
    else
      (ab_fR m0 8 l0 4).bind fun v3 =>
      (ab_rc m0 1 l1).bind fun _ =>
      (dd_X1_priceAt l1 l4 l3 m0).bind fun q4 =>
      (ab_rc q4.2 10 v3).bind fun _ =>
      (dd_X10_set v3 l4 (0 : Int32) q4.1 q4.2).bind fun q5 =>
      bb_X8_setPrices_34  n l0 l1 l3 (l4 + (1 : Int32)) q5.2
def bb_X8_setPrices_30  (l0 : Nat) (l1 : Nat) (s0 : Int32) (m0 : ab_Mm) : Option (Unit × ab_Mm) :=
  bb_X8_setPrices_34  ab_fu l0 l1 s0 (0 : Int32) m0
def dd_X8_setPrices  (l0 : Nat) (l1 : Nat) (m0 : ab_Mm) : Option (Unit × ab_Mm) :=
  (ab_fR m0 1 l1 0).bind fun v1 =>
  (ab_rc m0 10 v1).bind fun _ =>
  (dd_X10_total v1 (0 : Int32) m0).bind fun q2 =>
  if q2.1 ≤ 0 then
    bb_X8_setPrices_30  l0 l1 (0 : Int32) q2.2
  else
    (ab_fR q2.2 8 l0 5).bind fun v3 =>
    (ab_rc q2.2 10 v3).bind fun _ =>
    (dd_X10_total v3 (0 : Int32) q2.2).bind fun q4 =>
    if q2.1 = 0 then none else
    bb_X8_setPrices_30  l0 l1 (((100 : Int32) * q4.1) / q2.1) q4.2
def dd_X8_reset  (l0 : Nat) (l1 : Nat) (m0 : ab_Mm) : Option (Unit × ab_Mm) :=
  (ab_pI m0 8 l0 0 (0 : Int32)).bind fun m1 =>
  (ab_pI m1 8 l0 1 (0 : Int32)).bind fun m2 =>
  (ab_fR m2 8 l0 2).bind fun v3 =>
  (ab_rc m2 10 v3).bind fun _ =>
  (dd_X10_clear v3 m2).bind fun q4 =>
  (ab_fR q4.2 8 l0 3).bind fun v5 =>
  (ab_rc q4.2 10 v5).bind fun _ =>
  (dd_X10_clear v5 q4.2).bind fun q6 =>
  (ab_fR q6.2 8 l0 5).bind fun v7 =>
  (ab_rc q6.2 10 v7).bind fun _ =>
  (dd_X10_clear v7 q6.2).bind fun q8 =>
  (ab_fR q8.2 8 l0 6).bind fun v9 =>
  (dd_J7_fill_d0a16 v9 (0 : Int64) q8.2).bind fun q10 =>
  (ab_rc q10.2 8 l0).bind fun _ =>
  (dd_X8_setPrices l0 l1 q10.2).bind fun q11 =>
  some ((), q11.2)
def bb_X8_isFull_17  (s0 : Int32) (m0 : ab_Mm) : Option (Int32 × ab_Mm) :=
  if ¬ (s0 &&& 1 = s0) then none else
  some (s0, m0)
def dd_X8_isFull  (l0 : Nat) (m0 : ab_Mm) : Option (Int32 × ab_Mm) :=
  (ab_fI m0 8 l0 1).bind fun v1 =>
  (dd_J6_bitCount_0f7a4 v1 m0).bind fun q2 =>
  if q2.1 < (12 : Int32) then
    bb_X8_isFull_17  (0 : Int32) q2.2
  else
    bb_X8_isFull_17  (1 : Int32) q2.2
def bb_X8_setOn_37 (r4 : Nat → Int32 → Int32 → Int32 → ab_Mm → Option (Int32 × ab_Mm)) (l0 : Nat) (l1 : Int32) (l2 : Int32) (l3 : Int32) (m0 : ab_Mm) : Option (Int32 × ab_Mm) :=
  r4 l0 l1 l2 (l3 + (1 : Int32)) m0
def bb_X8_setOn_4  : Nat → Nat → Int32 → Int32 → Int32 → ab_Mm → Option (Int32 × ab_Mm)
  | 0, _, _, _, _, _ => none
  | n + 1, l0, l1, l2, l3, m0 =>
    if (12 : Int32) ≤ l3 then
      some (l2, m0)
    else
      (ab_rc m0 8 l0).bind fun _ =>
      (dd_X8_runs l0 l3 m0).bind fun q1 =>
      if q1.1 = 0 then
        bb_X8_setOn_37 (bb_X8_setOn_4  n) l0 l1 l2 l3 q1.2
      else
        (ab_fR q1.2 8 l0 2).bind fun v2 =>
        (ab_rc q1.2 10 v2).bind fun _ =>
        (dd_X10_get v2 l3 (3 : Int32) q1.2).bind fun q3 =>
        if q3.1 = l1 then
          bb_X8_setOn_37 (bb_X8_setOn_4  n) l0 l1 (l2 ||| ((1 : Int32) <<< (l3 &&& 31))) l3 q3.2
        else
          bb_X8_setOn_37 (bb_X8_setOn_4  n) l0 l1 l2 l3 q3.2
def dd_X8_setOn  (l0 : Nat) (l1 : Int32) (m0 : ab_Mm) : Option (Int32 × ab_Mm) :=
  bb_X8_setOn_4  ab_fu l0 l1 (0 : Int32) (0 : Int32) m0
def bb_X8_regulars_78 (r5 : Nat → Int32 → Int32 → Int32 → Int32 → ab_Mm → Option (Int32 × ab_Mm)) (l0 : Nat) (l1 : Int32) (l2 : Int32) (l3 : Int32) (l4 : Int32) (m0 : ab_Mm) : Option (Int32 × ab_Mm) :=
  r5 l0 l1 l2 l3 (l4 + (1 : Int32)) m0
def bb_X8_regulars_45 (r5 : Nat → Int32 → Int32 → Int32 → Int32 → ab_Mm → Option (Int32 × ab_Mm)) (l0 : Nat) (l1 : Int32) (l2 : Int32) (l3 : Int32) (l4 : Int32) (s0 : Int32) (m0 : ab_Mm) : Option (Int32 × ab_Mm) :=
  (ab_rc m0 8 l0).bind fun _ =>
  (dd_X8_runs l0 l4 m0).bind fun q1 =>
  if q1.1 = 0 then
    bb_X8_regulars_78 r5 l0 l1 l2 l3 l4 q1.2
  else
    if s0 = 0 then
      bb_X8_regulars_78 r5 l0 l1 l2 l3 l4 q1.2
    else
      (ab_fR q1.2 8 l0 2).bind fun v2 =>
      (ab_rc q1.2 10 v2).bind fun _ =>
      (dd_X10_get v2 l4 (2 : Int32) q1.2).bind fun q3 =>
      if q3.1 = (-1 : Int32) then
        bb_X8_regulars_78 r5 l0 l1 l2 (l3 + (1 : Int32)) l4 q3.2
      else
        bb_X8_regulars_78 r5 l0 l1 l2 l3 l4 q3.2
def bb_X8_regulars_44 (r5 : Nat → Int32 → Int32 → Int32 → Int32 → ab_Mm → Option (Int32 × ab_Mm)) (l0 : Nat) (l1 : Int32) (l2 : Int32) (l3 : Int32) (l4 : Int32) (m0 : ab_Mm) : Option (Int32 × ab_Mm) :=
  bb_X8_regulars_45 r5 l0 l1 l2 l3 l4 (0 : Int32) m0
def bb_X8_regulars_5  : Nat → Nat → Int32 → Int32 → Int32 → Int32 → ab_Mm → Option (Int32 × ab_Mm)
  | 0, _, _, _, _, _, _ => none
  | n + 1, l0, l1, l2, l3, l4, m0 =>
    if (12 : Int32) ≤ l4 then
      some (l3, m0)
    else
      (ab_fR m0 8 l0 2).bind fun v1 =>
      (ab_rc m0 10 v1).bind fun _ =>
      (dd_X10_get v1 l4 (0 : Int32) m0).bind fun q2 =>
      if q2.1 = l1 then
        (ab_fR q2.2 8 l0 2).bind fun v3 =>
        (ab_rc q2.2 10 v3).bind fun _ =>
        (dd_X10_get v3 l4 (1 : Int32) q2.2).bind fun q4 =>
        if q4.1 = l2 then
          bb_X8_regulars_45 (bb_X8_regulars_5  n) l0 l1 l2 l3 l4 (1 : Int32) q4.2
        else
          bb_X8_regulars_44 (bb_X8_regulars_5  n) l0 l1 l2 l3 l4 q4.2
      else
        bb_X8_regulars_44 (bb_X8_regulars_5  n) l0 l1 l2 l3 l4 q2.2
def dd_X8_regulars  (l0 : Nat) (l1 : Int32) (l2 : Int32) (m0 : ab_Mm) : Option (Int32 × ab_Mm) :=
  bb_X8_regulars_5  ab_fu l0 l1 l2 (0 : Int32) (0 : Int32) m0
def bb_X8_spentBy_23  (s0 : Int64) (m0 : ab_Mm) : Option (Int64 × ab_Mm) :=
  some (s0, m0)
def bb_X8_spentBy_22   (m0 : ab_Mm) : Option (Int64 × ab_Mm) :=
  bb_X8_spentBy_23  (0 : Int64) m0
def dd_X8_spentBy  (l0 : Nat) (l1 : Int32) (m0 : ab_Mm) : Option (Int64 × ab_Mm) :=
  if l1 < 0 then
    bb_X8_spentBy_22   m0
  else
    (ab_fR m0 8 l0 6).bind fun v1 =>
    (ab_len m0 4 v1).bind fun v2 =>
    if v2 ≤ l1 then
      bb_X8_spentBy_22   m0
    else
      (ab_fR m0 8 l0 6).bind fun v3 =>
      (ab_ldJ m0 v3 l1).bind fun v4 =>
      bb_X8_spentBy_23  v4 m0
def bb_X8_isOver_28  (s0 : Int32) (m0 : ab_Mm) : Option (Int32 × ab_Mm) :=
  if ¬ (s0 &&& 1 = s0) then none else
  some (s0, m0)
def dd_X8_isOver  (l0 : Nat) (l1 : Nat) (l2 : Int32) (m0 : ab_Mm) : Option (Int32 × ab_Mm) :=
  (ab_rc m0 8 l0).bind fun _ =>
  (dd_X8_spentBy l0 l2 m0).bind fun q1 =>
  (ab_fR q1.2 1 l1 2).bind fun v2 =>
  (ab_rc q1.2 10 v2).bind fun _ =>
  (dd_X10_get v2 l2 (0 : Int32) q1.2).bind fun q3 =>
  if (lg_cmp q1.1 ((100 : Int64) * q3.1.toInt64)) ≤ 0 then
    bb_X8_isOver_28  (0 : Int32) q3.2
  else
    bb_X8_isOver_28  (1 : Int32) q3.2
def bb_X8_fits_43  (s0 : Int32) (m0 : ab_Mm) : Option (Int32 × ab_Mm) :=
  if ¬ (s0 &&& 1 = s0) then none else
  some (s0, m0)
def bb_X8_fits_42   (m0 : ab_Mm) : Option (Int32 × ab_Mm) :=
  bb_X8_fits_43  (0 : Int32) m0
def dd_X8_fits  (l0 : Nat) (l1 : Nat) (l2 : Int32) (l3 : Int32) (m0 : ab_Mm) : Option (Int32 × ab_Mm) :=
  (ab_fR m0 1 l1 1).bind fun v1 =>
  (ab_rc m0 10 v1).bind fun _ =>
  (dd_X10_get v1 l2 (0 : Int32) m0).bind fun q2 =>
  (ab_rc q2.2 8 l0).bind fun _ =>
  (dd_X8_left l0 l1 l3 (0 : Int32) q2.2).bind fun q3 =>
  if q3.1 < q2.1 then
    bb_X8_fits_42   q3.2
  else
    (ab_fR q3.2 1 l1 1).bind fun v4 =>
    (ab_rc q3.2 10 v4).bind fun _ =>
    (dd_X10_get v4 l2 (1 : Int32) q3.2).bind fun q5 =>
    (ab_rc q5.2 8 l0).bind fun _ =>
    (dd_X8_left l0 l1 l3 (1 : Int32) q5.2).bind fun q6 =>
    if q6.1 < q5.1 then
      bb_X8_fits_42   q6.2
    else
      bb_X8_fits_43  (1 : Int32) q6.2
def bb_X8_tightestHost_69 (r8 : Nat → Nat → Int32 → Int32 → Int32 → Int32 → ab_Mm → Option (Int32 × ab_Mm)) (l0 : Nat) (l1 : Nat) (l2 : Int32) (l3 : Int32) (l4 : Int32) (l5 : Int32) (m0 : ab_Mm) : Option (Int32 × ab_Mm) :=
  r8 l0 l1 l2 l3 l4 (l5 + (1 : Int32)) m0
def bb_X8_tightestHost_62 (r8 : Nat → Nat → Int32 → Int32 → Int32 → Int32 → ab_Mm → Option (Int32 × ab_Mm)) (l0 : Nat) (l1 : Nat) (l2 : Int32) (l5 : Int32) (l6 : Int32) (m0 : ab_Mm) : Option (Int32 × ab_Mm) :=
  bb_X8_tightestHost_69 r8 l0 l1 l2 l5 l6 l5 m0
def bb_X8_tightestHost_8  : Nat → Nat → Nat → Int32 → Int32 → Int32 → Int32 → ab_Mm → Option (Int32 × ab_Mm)
  | 0, _, _, _, _, _, _, _ => none
  | n + 1, l0, l1, l2, l3, l4, l5, m0 =>
    (ab_fR m0 1 l1 0).bind fun v1 =>
    (ab_fI m0 10 v1 3).bind fun v2 =>
    if v2 ≤ l5 then
      some (l3, m0)
    else
      (ab_rc m0 8 l0).bind fun _ =>
      (dd_X8_fits l0 l1 l2 l5 m0).bind fun q3 =>
      if q3.1 = 0 then
        bb_X8_tightestHost_69 (bb_X8_tightestHost_8  n) l0 l1 l2 l3 l4 l5 q3.2
      else
        (ab_rc q3.2 8 l0).bind fun _ =>
        (dd_X8_left l0 l1 l5 (0 : Int32) q3.2).bind fun q4 =>
        (ab_rc q4.2 8 l0).bind fun _ =>
        (dd_X8_left l0 l1 l5 (1 : Int32) q4.2).bind fun q5 =>
        if l3 = (-1 : Int32) then
          bb_X8_tightestHost_62 (bb_X8_tightestHost_8  n) l0 l1 l2 l5 (q4.1 + q5.1) q5.2
        else
          if l4 ≤ (q4.1 + q5.1) then
            bb_X8_tightestHost_69 (bb_X8_tightestHost_8  n) l0 l1 l2 l3 l4 l5 q5.2
          else
            bb_X8_tightestHost_62 (bb_X8_tightestHost_8  n) l0 l1 l2 l5 (q4.1 + q5.1) q5.2
def dd_X8_tightestHost  (l0 : Nat) (l1 : Nat) (l2 : Int32) (m0 : ab_Mm) : Option (Int32 × ab_Mm) :=
  bb_X8_tightestHost_8  ab_fu l0 l1 l2 (-1 : Int32) (0 : Int32) (0 : Int32) m0
def bb_X8_roomOn_32   (m0 : ab_Mm) : Option (Int32 × ab_Mm) :=
  some ((0 : Int32), m0)
def dd_X8_roomOn  (l0 : Nat) (l1 : Nat) (l2 : Int32) (l3 : Int32) (m0 : ab_Mm) : Option (Int32 × ab_Mm) :=
  (ab_fR m0 1 l1 1).bind fun v1 =>
  (ab_rc m0 10 v1).bind fun _ =>
  (dd_X10_get v1 l3 (0 : Int32) m0).bind fun q2 =>
  (ab_fR q2.2 1 l1 1).bind fun v3 =>
  (ab_rc q2.2 10 v3).bind fun _ =>
  (dd_X10_get v3 l3 (1 : Int32) q2.2).bind fun q4 =>
  if q2.1 ≤ 0 then
    bb_X8_roomOn_32   q4.2
  else
    if 0 < q4.1 then
      (ab_rc q4.2 8 l0).bind fun _ =>
      (dd_X8_left l0 l1 l2 (0 : Int32) q4.2).bind fun q5 =>
      if q2.1 = 0 then none else
      (ab_rc q5.2 8 l0).bind fun _ =>
      (dd_X8_left l0 l1 l2 (1 : Int32) q5.2).bind fun q6 =>
      if q4.1 = 0 then none else
      some ((if (q6.1 / q4.1) < (q5.1 / q2.1) then (q6.1 / q4.1) else (q5.1 / q2.1)), q6.2)
    else
      bb_X8_roomOn_32   q4.2
def bb_X8_lowestFree_22  (l1 : Int32) (m0 : ab_Mm) : Option (Int32 × ab_Mm) :=
  some (l1, m0)
def bb_X8_lowestFree_2  : Nat → Nat → Int32 → ab_Mm → Option (Int32 × ab_Mm)
  | 0, _, _, _ => none
  | n + 1, l0, l1, m0 =>
    if (11 : Int32) ≤ l1 then
      bb_X8_lowestFree_22  l1 m0
    else
      (ab_rc m0 8 l0).bind fun _ =>
      (dd_X8_runs l0 l1 m0).bind fun q1 =>
      if q1.1 = 0 then
        bb_X8_lowestFree_22  l1 q1.2
      else
        bb_X8_lowestFree_2  n l0 (l1 + (1 : Int32)) q1.2
def dd_X8_lowestFree  (l0 : Nat) (m0 : ab_Mm) : Option (Int32 × ab_Mm) :=
  bb_X8_lowestFree_2  ab_fu l0 (0 : Int32) m0
def dd_X8_start  (l0 : Nat) (l1 : Nat) (l2 : Int32) (l3 : Int32) (l4 : Int32) (l5 : Int32) (m0 : ab_Mm) : Option (Int32 × ab_Mm) :=
  (ab_rc m0 8 l0).bind fun _ =>
  (dd_X8_lowestFree l0 m0).bind fun q1 =>
  (ab_fI q1.2 8 l0 1).bind fun v2 =>
  (ab_pI q1.2 8 l0 1 (v2 ||| ((1 : Int32) <<< (q1.1 &&& 31)))).bind fun m3 =>
  (ab_fR m3 8 l0 2).bind fun v4 =>
  (ab_rc m3 10 v4).bind fun _ =>
  (dd_X10_set v4 q1.1 (0 : Int32) l2 m3).bind fun q5 =>
  (ab_fR q5.2 8 l0 2).bind fun v6 =>
  (ab_rc q5.2 10 v6).bind fun _ =>
  (dd_X10_set v6 q1.1 (1 : Int32) l3 q5.2).bind fun q7 =>
  (ab_fR q7.2 8 l0 2).bind fun v8 =>
  (ab_rc q7.2 10 v8).bind fun _ =>
  (dd_X10_set v8 q1.1 (2 : Int32) l4 q7.2).bind fun q9 =>
  (ab_fR q9.2 8 l0 2).bind fun v10 =>
  (ab_rc q9.2 10 v10).bind fun _ =>
  (dd_X10_set v10 q1.1 (3 : Int32) l5 q9.2).bind fun q11 =>
  (ab_fR q11.2 8 l0 2).bind fun v12 =>
  (ab_rc q11.2 10 v12).bind fun _ =>
  (dd_X10_set v12 q1.1 (4 : Int32) (-1 : Int32) q11.2).bind fun q13 =>
  (ab_fR q13.2 8 l0 2).bind fun v14 =>
  (ab_fI q13.2 8 l0 0).bind fun v15 =>
  (ab_rc q13.2 10 v14).bind fun _ =>
  (dd_X10_set v14 q1.1 (5 : Int32) v15 q13.2).bind fun q16 =>
  (ab_rc q16.2 8 l0).bind fun _ =>
  (dd_X8_load l0 l1 q1.1 (1 : Int32) q16.2).bind fun q17 =>
  some (q1.1, q17.2)
def dd_X8_end  (l0 : Nat) (l1 : Nat) (l2 : Int32) (m0 : ab_Mm) : Option (Unit × ab_Mm) :=
  (ab_rc m0 8 l0).bind fun _ =>
  (dd_X8_load l0 l1 l2 (-1 : Int32) m0).bind fun q1 =>
  (ab_fI q1.2 8 l0 1).bind fun v2 =>
  (ab_pI q1.2 8 l0 1 (v2 &&& (((1 : Int32) <<< (l2 &&& 31)) ^^^ (-1 : Int32)))).bind fun m3 =>
  some ((), m3)
def dd_X8_giveNotice  (l0 : Nat) (l1 : Nat) (l2 : Int32) (m0 : ab_Mm) : Option (Unit × ab_Mm) :=
  (ab_fR m0 8 l0 2).bind fun v1 =>
  (ab_fI m0 8 l0 0).bind fun v2 =>
  (ab_fR m0 1 l1 4).bind fun v3 =>
  (ab_rc m0 10 v3).bind fun _ =>
  (dd_X10_get v3 (0 : Int32) (1 : Int32) m0).bind fun q4 =>
  (ab_rc q4.2 10 v1).bind fun _ =>
  (dd_X10_set v1 l2 (4 : Int32) (v2 + q4.1) q4.2).bind fun q5 =>
  some ((), q5.2)
def bb_X8_queue_35  (l0 : Nat) (l1 : Int32) (l2 : Int32) (l3 : Int32) (l4 : Int32) (m0 : ab_Mm) : Option (Unit × ab_Mm) :=
  (ab_fR m0 8 l0 3).bind fun v1 =>
  (ab_rc m0 10 v1).bind fun _ =>
  (dd_X10_insertRow v1 l4 m0).bind fun q2 =>
  (ab_fR q2.2 8 l0 3).bind fun v3 =>
  (ab_rc q2.2 10 v3).bind fun _ =>
  (dd_X10_set v3 l4 (0 : Int32) l1 q2.2).bind fun q4 =>
  (ab_fR q4.2 8 l0 3).bind fun v5 =>
  (ab_rc q4.2 10 v5).bind fun _ =>
  (dd_X10_set v5 l4 (1 : Int32) l2 q4.2).bind fun q6 =>
  (ab_fR q6.2 8 l0 3).bind fun v7 =>
  (ab_rc q6.2 10 v7).bind fun _ =>
  (dd_X10_set v7 l4 (2 : Int32) l3 q6.2).bind fun q8 =>
  some ((), q8.2)
def bb_X8_queue_3  : Nat → Nat → Int32 → Int32 → Int32 → Int32 → ab_Mm → Option (Unit × ab_Mm)
  | 0, _, _, _, _, _, _ => none
  | n + 1, l0, l1, l2, l3, l4, m0 =>
    (ab_fR m0 8 l0 3).bind fun v1 =>
    (ab_fI m0 10 v1 3).bind fun v2 =>
    if v2 ≤ l4 then
      bb_X8_queue_35  l0 l1 l2 l3 l4 m0
    else
      (ab_fR m0 8 l0 3).bind fun v3 =>
      (ab_rc m0 10 v3).bind fun _ =>
      (dd_X10_get v3 l4 (2 : Int32) m0).bind fun q4 =>
      if q4.1 < l3 then
        bb_X8_queue_35  l0 l1 l2 l3 l4 q4.2
      else
        bb_X8_queue_3  n l0 l1 l2 l3 (l4 + (1 : Int32)) q4.2
def dd_X8_queue  (l0 : Nat) (l1 : Int32) (l2 : Int32) (l3 : Int32) (m0 : ab_Mm) : Option (Unit × ab_Mm) :=
  bb_X8_queue_3  ab_fu l0 l1 l2 l3 (0 : Int32) m0
def bb_X10_removeRow_34   (m0 : ab_Mm) : Option (Unit × ab_Mm) :=
  some ((), m0)
def dd_X10_removeRow  (l0 : Nat) (l1 : Int32) (m0 : ab_Mm) : Option (Unit × ab_Mm) :=
  (ab_rc m0 10 l0).bind fun _ =>
  (dd_X10_has l0 l1 m0).bind fun q1 =>
  if q1.1 = 0 then
    bb_X10_removeRow_34   q1.2
  else
    (ab_fI q1.2 10 l0 3).bind fun v2 =>
    (ab_rc q1.2 10 l0).bind fun _ =>
    (dd_X10_shift l0 (l1 + (1 : Int32)) l1 ((v2 - l1) - (1 : Int32)) q1.2).bind fun q3 =>
    (ab_fI q3.2 10 l0 3).bind fun v4 =>
    (ab_pI q3.2 10 l0 3 (v4 - (1 : Int32))).bind fun m5 =>
    bb_X10_removeRow_34   m5
def bb_X8_dropRequests_37 (r12 : Nat → Int32 → Int32 → Int32 → ab_Mm → Option (Int32 × ab_Mm)) (l0 : Nat) (l1 : Int32) (l2 : Int32) (l3 : Int32) (m0 : ab_Mm) : Option (Int32 × ab_Mm) :=
  r12 l0 l1 l2 (l3 + (-1 : Int32)) m0
def bb_X8_dropRequests_12  : Nat → Nat → Int32 → Int32 → Int32 → ab_Mm → Option (Int32 × ab_Mm)
  | 0, _, _, _, _, _ => none
  | n + 1, l0, l1, l2, l3, m0 =>
    if l3 < 0 then
      (ab_fR m0 8 l0 3).bind fun v1 =>
      (ab_fI m0 10 v1 3).bind fun v2 =>
      some ((l2 - v2), m0)
    else
      (ab_fR m0 8 l0 3).bind fun v3 =>
      (ab_rc m0 10 v3).bind fun _ =>
      (dd_X10_get v3 l3 (0 : Int32) m0).bind fun q4 =>
      if q4.1 = l1 then
        (ab_fR q4.2 8 l0 3).bind fun v5 =>
        (ab_rc q4.2 10 v5).bind fun _ =>
        (dd_X10_removeRow v5 l3 q4.2).bind fun q6 =>
        bb_X8_dropRequests_37 (bb_X8_dropRequests_12  n) l0 l1 l2 l3 q6.2
      else
        bb_X8_dropRequests_37 (bb_X8_dropRequests_12  n) l0 l1 l2 l3 q4.2
def dd_X8_dropRequests  (l0 : Nat) (l1 : Int32) (m0 : ab_Mm) : Option (Int32 × ab_Mm) :=
  (ab_fR m0 8 l0 3).bind fun v1 =>
  (ab_fI m0 10 v1 3).bind fun v2 =>
  bb_X8_dropRequests_12  ab_fu l0 l1 v2 (v2 - (1 : Int32)) m0
def bb_X8_endDue_56 (r4 : Nat → Nat → Int32 → Int32 → ab_Mm → Option (Int32 × ab_Mm)) (l0 : Nat) (l1 : Nat) (l2 : Int32) (l3 : Int32) (m0 : ab_Mm) : Option (Int32 × ab_Mm) :=
  r4 l0 l1 l2 (l3 + (1 : Int32)) m0
def bb_X8_endDue_4  : Nat → Nat → Nat → Int32 → Int32 → ab_Mm → Option (Int32 × ab_Mm)
  | 0, _, _, _, _, _ => none
  | n + 1, l0, l1, l2, l3, m0 =>
    if (12 : Int32) ≤ l3 then
      some (l2, m0)
    else
      (ab_fR m0 8 l0 2).bind fun v1 =>
      (ab_rc m0 10 v1).bind fun _ =>
      (dd_X10_get v1 l3 (4 : Int32) m0).bind fun q2 =>
      (ab_rc q2.2 8 l0).bind fun _ =>
      (dd_X8_runs l0 l3 q2.2).bind fun q3 =>
      if q3.1 = 0 then
        bb_X8_endDue_56 (bb_X8_endDue_4  n) l0 l1 l2 l3 q3.2
      else
        if q2.1 = (-1 : Int32) then
          bb_X8_endDue_56 (bb_X8_endDue_4  n) l0 l1 l2 l3 q3.2
        else
          (ab_fI q3.2 8 l0 0).bind fun v4 =>
          if v4 < q2.1 then
            bb_X8_endDue_56 (bb_X8_endDue_4  n) l0 l1 l2 l3 q3.2
          else
            (ab_rc q3.2 8 l0).bind fun _ =>
            (dd_X8_end l0 l1 l3 q3.2).bind fun q5 =>
            bb_X8_endDue_56 (bb_X8_endDue_4  n) l0 l1 (l2 ||| ((1 : Int32) <<< (l3 &&& 31))) l3 q5.2
def dd_X8_endDue  (l0 : Nat) (l1 : Nat) (m0 : ab_Mm) : Option (Int32 × ab_Mm) :=
  bb_X8_endDue_4  ab_fu l0 l1 (0 : Int32) (0 : Int32) m0
def bb_X8_setNotices_84 (r2 : Nat → Nat → Int32 → ab_Mm → Option (Unit × ab_Mm)) (l0 : Nat) (l1 : Nat) (l2 : Int32) (m0 : ab_Mm) : Option (Unit × ab_Mm) :=
  r2 l0 l1 (l2 + (1 : Int32)) m0
def bb_X8_setNotices_2  : Nat → Nat → Nat → Int32 → ab_Mm → Option (Unit × ab_Mm)
  | 0, _, _, _, _ => none
  | n + 1, l0, l1, l2, m0 =>
    if (12 : Int32) ≤ l2 then
      some ((), m0)
    else
      (ab_fR m0 8 l0 2).bind fun v1 =>
      (ab_rc m0 10 v1).bind fun _ =>
      (dd_X10_get v1 l2 (2 : Int32) m0).bind fun q2 =>
      (ab_rc q2.2 8 l0).bind fun _ =>
      (dd_X8_runs l0 l2 q2.2).bind fun q3 =>
      if q3.1 = 0 then
        bb_X8_setNotices_84 (bb_X8_setNotices_2  n) l0 l1 l2 q3.2
      else
        if q2.1 = (-1 : Int32) then
          bb_X8_setNotices_84 (bb_X8_setNotices_2  n) l0 l1 l2 q3.2
        else
          (ab_fR q3.2 8 l0 4).bind fun v4 =>
          (ab_fR q3.2 8 l0 2).bind fun v5 =>
          (ab_rc q3.2 10 v5).bind fun _ =>
          (dd_X10_get v5 l2 (1 : Int32) q3.2).bind fun q6 =>
          (ab_rc q6.2 10 v4).bind fun _ =>
          (dd_X10_get v4 q6.1 (0 : Int32) q6.2).bind fun q7 =>
          if q2.1 < q7.1 then
            (ab_fR q7.2 8 l0 2).bind fun v8 =>
            (ab_rc q7.2 10 v8).bind fun _ =>
            (dd_X10_get v8 l2 (4 : Int32) q7.2).bind fun q9 =>
            if q9.1 = (-1 : Int32) then
              (ab_rc q9.2 8 l0).bind fun _ =>
              (dd_X8_giveNotice l0 l1 l2 q9.2).bind fun q10 =>
              bb_X8_setNotices_84 (bb_X8_setNotices_2  n) l0 l1 l2 q10.2
            else
              bb_X8_setNotices_84 (bb_X8_setNotices_2  n) l0 l1 l2 q9.2
          else
            (ab_fR q7.2 8 l0 2).bind fun v11 =>
            (ab_rc q7.2 10 v11).bind fun _ =>
            (dd_X10_set v11 l2 (4 : Int32) (-1 : Int32) q7.2).bind fun q12 =>
            bb_X8_setNotices_84 (bb_X8_setNotices_2  n) l0 l1 l2 q12.2
def dd_X8_setNotices  (l0 : Nat) (l1 : Nat) (m0 : ab_Mm) : Option (Unit × ab_Mm) :=
  bb_X8_setNotices_2  ab_fu l0 l1 (0 : Int32) m0
def bb_X8_grantRequests_137   (m0 : ab_Mm) : Option (Unit × ab_Mm) :=
  some ((), m0)
def bb_X8_grantRequests_131 (r4 : Nat → Nat → Int32 → Int32 → ab_Mm → Option (Unit × ab_Mm)) (l0 : Nat) (l1 : Nat) (l2 : Int32) (l3 : Int32) (m0 : ab_Mm) : Option (Unit × ab_Mm) :=
  r4 l0 l1 l2 (l3 + (1 : Int32)) m0
def bb_X8_grantRequests_88 (r4 : Nat → Nat → Int32 → Int32 → ab_Mm → Option (Unit × ab_Mm)) (l0 : Nat) (l1 : Nat) (l2 : Int32) (l3 : Int32) (l4 : Int32) (l5 : Int32) (s0 : Int32) (m0 : ab_Mm) : Option (Unit × ab_Mm) :=
  if s0 = (-1 : Int32) then
    bb_X8_grantRequests_131 r4 l0 l1 (l2 + (1 : Int32)) l3 m0
  else
    (ab_fR m0 8 l0 3).bind fun v1 =>
    (ab_rc m0 10 v1).bind fun _ =>
    (dd_X10_get v1 l2 (0 : Int32) m0).bind fun q2 =>
    (ab_rc q2.2 8 l0).bind fun _ =>
    (dd_X8_start l0 l1 q2.1 l4 l5 s0 q2.2).bind fun q3 =>
    (ab_fR q3.2 8 l0 3).bind fun v4 =>
    (ab_rc q3.2 10 v4).bind fun _ =>
    (dd_X10_removeRow v4 l2 q3.2).bind fun q5 =>
    bb_X8_grantRequests_131 r4 l0 l1 l2 l3 q5.2
def bb_X8_grantRequests_70 (r4 : Nat → Nat → Int32 → Int32 → ab_Mm → Option (Unit × ab_Mm)) (l0 : Nat) (l1 : Nat) (l2 : Int32) (l3 : Int32) (l4 : Int32) (l5 : Int32) (s0 : Int32) (m0 : ab_Mm) : Option (Unit × ab_Mm) :=
  if s0 = 0 then
    bb_X8_grantRequests_88 r4 l0 l1 l2 l3 l4 l5 (-1 : Int32) m0
  else
    (ab_rc m0 8 l0).bind fun _ =>
    (dd_X8_tightestHost l0 l1 l4 m0).bind fun q1 =>
    bb_X8_grantRequests_88 r4 l0 l1 l2 l3 l4 l5 q1.1 q1.2
def bb_X8_grantRequests_69 (r4 : Nat → Nat → Int32 → Int32 → ab_Mm → Option (Unit × ab_Mm)) (l0 : Nat) (l1 : Nat) (l2 : Int32) (l3 : Int32) (l4 : Int32) (l5 : Int32) (m0 : ab_Mm) : Option (Unit × ab_Mm) :=
  bb_X8_grantRequests_70 r4 l0 l1 l2 l3 l4 l5 (0 : Int32) m0
def bb_X8_grantRequests_4  : Nat → Nat → Nat → Int32 → Int32 → ab_Mm → Option (Unit × ab_Mm)
  | 0, _, _, _, _, _ => none
  | n + 1, l0, l1, l2, l3, m0 =>
    if (10 : Int32) ≤ l3 then
      bb_X8_grantRequests_137   m0
    else
      (ab_fR m0 8 l0 3).bind fun v1 =>
      (ab_fI m0 10 v1 3).bind fun v2 =>
      if v2 ≤ l2 then
        bb_X8_grantRequests_137   m0
      else
        (ab_fR m0 8 l0 3).bind fun v3 =>
        (ab_rc m0 10 v3).bind fun _ =>
        (dd_X10_get v3 l2 (1 : Int32) m0).bind fun q4 =>
        (ab_fR q4.2 8 l0 3).bind fun v5 =>
        (ab_rc q4.2 10 v5).bind fun _ =>
        (dd_X10_get v5 l2 (2 : Int32) q4.2).bind fun q6 =>
        (ab_fR q6.2 8 l0 4).bind fun v7 =>
        (ab_rc q6.2 10 v7).bind fun _ =>
        (dd_X10_get v7 q4.1 (0 : Int32) q6.2).bind fun q8 =>
        if q6.1 < q8.1 then
          bb_X8_grantRequests_69 (bb_X8_grantRequests_4  n) l0 l1 l2 l3 q4.1 q6.1 q8.2
        else
          (ab_rc q8.2 8 l0).bind fun _ =>
          (dd_X8_isFull l0 q8.2).bind fun q9 =>
          if q9.1 = 0 then
            bb_X8_grantRequests_70 (bb_X8_grantRequests_4  n) l0 l1 l2 l3 q4.1 q6.1 (1 : Int32) q9.2
          else
            bb_X8_grantRequests_69 (bb_X8_grantRequests_4  n) l0 l1 l2 l3 q4.1 q6.1 q9.2
def dd_X8_grantRequests  (l0 : Nat) (l1 : Nat) (m0 : ab_Mm) : Option (Unit × ab_Mm) :=
  bb_X8_grantRequests_4  ab_fu l0 l1 (0 : Int32) (0 : Int32) m0
def dd_X8_nextHour  (l0 : Nat) (l1 : Nat) (m0 : ab_Mm) : Option (Int32 × ab_Mm) :=
  (ab_fI m0 8 l0 0).bind fun v1 =>
  (ab_pI m0 8 l0 0 (v1 + (1 : Int32))).bind fun m2 =>
  (ab_rc m2 8 l0).bind fun _ =>
  (dd_X8_endDue l0 l1 m2).bind fun q3 =>
  (ab_rc q3.2 8 l0).bind fun _ =>
  (dd_X8_setPrices l0 l1 q3.2).bind fun q4 =>
  (ab_rc q4.2 8 l0).bind fun _ =>
  (dd_X8_setNotices l0 l1 q4.2).bind fun q5 =>
  (ab_rc q5.2 8 l0).bind fun _ =>
  (dd_X8_grantRequests l0 l1 q5.2).bind fun q6 =>
  some (q3.1, q6.2)
def dd_X11_init  (l0 : Nat) (m0 : ab_Mm) : Option (Unit × ab_Mm) :=
  (ab_nw m0 (0, 7, [some none, none, some none, some none, none, none, none, none, none, none, none])).bind fun q1 =>
  (dd_X7_init q1.1 q1.2).bind fun q2 =>
  (ab_pR q2.2 11 l0 0 q1.1).bind fun m3 =>
  (ab_nw m3 (0, 1, [some none, some none, some none, some none, some none, some none])).bind fun q4 =>
  (dd_X1_init q4.1 q4.2).bind fun q5 =>
  (ab_pR q5.2 11 l0 1 q4.1).bind fun m6 =>
  (ab_nw m6 (0, 8, [none, none, some none, some none, some none, some none, some none])).bind fun q7 =>
  (dd_X8_init q7.1 q7.2).bind fun q8 =>
  (ab_pR q8.2 11 l0 2 q7.1).bind fun m9 =>
  (ab_nw m9 (0, 8, [none, none, some none, some none, some none, some none, some none])).bind fun q10 =>
  (dd_X8_init q10.1 q10.2).bind fun q11 =>
  (ab_pR q11.2 11 l0 3 q10.1).bind fun m12 =>
  (ab_nw m12 (0, 4, [some none, some none, none, none, none])).bind fun q13 =>
  (dd_X4_init q13.1 q13.2).bind fun q14 =>
  (ab_pR q14.2 11 l0 4 q13.1).bind fun m15 =>
  (ab_nw m15 (0, 0, [some none, some none])).bind fun q16 =>
  (dd_X0_init q16.1 q16.2).bind fun q17 =>
  (ab_pR q17.2 11 l0 5 q16.1).bind fun m18 =>
  (ab_nw m18 (0, 6, [some none, some none, some none, some none, some none, some none])).bind fun q19 =>
  (dd_X6_init q19.1 q19.2).bind fun q20 =>
  (ab_pR q20.2 11 l0 6 q19.1).bind fun m21 =>
  (ab_nw m21 (0, 3, [some none, none, none])).bind fun q22 =>
  (dd_X3_init q22.1 q22.2).bind fun q23 =>
  (ab_pR q23.2 11 l0 7 q22.1).bind fun m24 =>
  (ab_nw m24 (0, 2, [some none, some none, none, some none])).bind fun q25 =>
  (dd_X2_init q25.1 q25.2).bind fun q26 =>
  (ab_pR q26.2 11 l0 8 q25.1).bind fun m27 =>
  some ((), m27)
def dd_X11_append  (l0 : Nat) (l1 : Int32) (l2 : Int32) (l3 : Int32) (l4 : Int32) (l5 : Int32) (m0 : ab_Mm) : Option (Int32 × ab_Mm) :=
  (ab_fR m0 11 l0 0).bind fun v1 =>
  (ab_fI m0 7 v1 1).bind fun v2 =>
  if (v2 + (20 : Int32)) ≤ (800 : Int32) then
    (ab_fR m0 11 l0 0).bind fun v3 =>
    (ab_rc m0 7 v3).bind fun _ =>
    (dd_X7_putWord v3 l1 m0).bind fun q4 =>
    (ab_fR q4.2 11 l0 0).bind fun v5 =>
    (ab_rc q4.2 7 v5).bind fun _ =>
    (dd_X7_putWord v5 l2 q4.2).bind fun q6 =>
    (ab_fR q6.2 11 l0 0).bind fun v7 =>
    (ab_rc q6.2 7 v7).bind fun _ =>
    (dd_X7_putWord v7 l3 q6.2).bind fun q8 =>
    (ab_fR q8.2 11 l0 0).bind fun v9 =>
    (ab_rc q8.2 7 v9).bind fun _ =>
    (dd_X7_putWord v9 l4 q8.2).bind fun q10 =>
    (ab_fR q10.2 11 l0 0).bind fun v11 =>
    (ab_rc q10.2 7 v11).bind fun _ =>
    (dd_X7_putWord v11 l5 q10.2).bind fun q12 =>
    (ab_fR q12.2 11 l0 0).bind fun v13 =>
    (ab_fI q12.2 7 v13 1).bind fun v14 =>
    some (v14, q12.2)
  else
    some ((-1 : Int32), m0)
def bb_X11_parse_70  (l2 : Int32) (m0 : ab_Mm) : Option ((Int32 ⊕ Nat) × ab_Mm) :=
  some (.inl l2, m0)
def bb_X11_parse_15   (m0 : ab_Mm) : Option ((Int32 ⊕ Nat) × ab_Mm) :=
  some (.inr 2, ab_xm m0)
def dd_X11_parse  (l0 : Nat) (l1 : Int32) (m0 : ab_Mm) : Option ((Int32 ⊕ Nat) × ab_Mm) :=
  if l1 < 0 then
    bb_X11_parse_15   m0
  else
    (ab_fR m0 11 l0 0).bind fun v1 =>
    (ab_fI m0 7 v1 1).bind fun v2 =>
    if l1 ≤ v2 then
      (ab_fR m0 11 l0 0).bind fun v3 =>
      (ab_rc m0 7 v3).bind fun _ =>
      (dd_X7_read v3 l1 m0).bind fun q4 =>
      if q4.1 = 0 then
        (ab_fR q4.2 11 l0 1).bind fun v5 =>
        (ab_fR q4.2 11 l0 0).bind fun v6 =>
        (ab_fR q4.2 7 v6 3).bind fun v7 =>
        (ab_rc q4.2 1 v5).bind fun _ =>
        (dd_X1_copyFrom v5 v7 q4.2).bind fun q8 =>
        (ab_fR q8.2 11 l0 2).bind fun v9 =>
        (ab_fR q8.2 11 l0 1).bind fun v10 =>
        (ab_rc q8.2 8 v9).bind fun _ =>
        (dd_X8_reset v9 v10 q8.2).bind fun q11 =>
        (ab_fR q11.2 11 l0 4).bind fun v12 =>
        (ab_rc q11.2 4 v12).bind fun _ =>
        (dd_X4_clear v12 q11.2).bind fun q13 =>
        bb_X11_parse_70  q4.1 q13.2
      else
        bb_X11_parse_70  q4.1 q4.2
    else
      bb_X11_parse_15   m0
def dd_X11_errorPosition  (l0 : Nat) (m0 : ab_Mm) : Option (Int32 × ab_Mm) :=
  (ab_fR m0 11 l0 0).bind fun v1 =>
  (ab_fI m0 7 v1 4).bind fun v2 =>
  some (v2, m0)
def dd_X11_hostCount  (l0 : Nat) (m0 : ab_Mm) : Option (Int32 × ab_Mm) :=
  (ab_fR m0 11 l0 1).bind fun v1 =>
  (ab_fR m0 1 v1 0).bind fun v2 =>
  (ab_fI m0 10 v2 3).bind fun v3 =>
  some (v3, m0)
def dd_X11_clock  (l0 : Nat) (m0 : ab_Mm) : Option (Int32 × ab_Mm) :=
  (ab_fR m0 11 l0 2).bind fun v1 =>
  (ab_fI m0 8 v1 0).bind fun v2 =>
  some (v2, m0)
def dd_X11_needRow  (l0 : Nat) (l1 : Nat) (l2 : Int32) (m0 : ab_Mm) : Option ((Unit ⊕ Nat) × ab_Mm) :=
  (ab_rc m0 10 l1).bind fun _ =>
  (dd_X10_has l1 l2 m0).bind fun q1 =>
  if q1.1 = 0 then
    some (.inr 0, ab_xm q1.2)
  else
    some (.inl (), q1.2)
def bb_X11_free_30  (s0 : Nat) (s1 : Nat) (s2 : Int32) (s3 : Int32) (m0 : ab_Mm) : Option ((Int32 ⊕ Nat) × ab_Mm) :=
  (ab_rc m0 8 s0).bind fun _ =>
  (dd_X8_left s0 s1 s2 s3 m0).bind fun q1 =>
  some (.inl q1.1, q1.2)
def dd_X11_free  (l0 : Nat) (l1 : Int32) (l2 : Int32) (m0 : ab_Mm) : Option ((Int32 ⊕ Nat) × ab_Mm) :=
  (ab_fR m0 11 l0 1).bind fun v1 =>
  (ab_fR m0 1 v1 0).bind fun v2 =>
  (ab_rc m0 11 l0).bind fun _ =>
  (dd_X11_needRow l0 v2 l1 m0).bind fun q3 =>
  match q3.1 with
  | .inl v3 =>
    (ab_fR q3.2 11 l0 2).bind fun v4 =>
    (ab_fR q3.2 11 l0 1).bind fun v5 =>
    if l2 = 0 then
      bb_X11_free_30  v4 v5 l1 (0 : Int32) q3.2
    else
      bb_X11_free_30  v4 v5 l1 (1 : Int32) q3.2
  | .inr v3 =>
    some (.inr v3, q3.2)
def dd_X11_instancesOn  (l0 : Nat) (l1 : Int32) (m0 : ab_Mm) : Option ((Int32 ⊕ Nat) × ab_Mm) :=
  (ab_fR m0 11 l0 1).bind fun v1 =>
  (ab_fR m0 1 v1 0).bind fun v2 =>
  (ab_rc m0 11 l0).bind fun _ =>
  (dd_X11_needRow l0 v2 l1 m0).bind fun q3 =>
  match q3.1 with
  | .inl v3 =>
    (ab_fR q3.2 11 l0 2).bind fun v4 =>
    (ab_rc q3.2 8 v4).bind fun _ =>
    (dd_X8_setOn v4 l1 q3.2).bind fun q5 =>
    some (.inl q5.1, q5.2)
  | .inr v3 =>
    some (.inr v3, q3.2)
def bb_X11_utilisation_35  (s0 : UInt64) (m0 : ab_Mm) : Option (UInt64 × ab_Mm) :=
  some (s0, m0)
def dd_X11_utilisation  (l0 : Nat) (m0 : ab_Mm) : Option (UInt64 × ab_Mm) :=
  (ab_fR m0 11 l0 1).bind fun v1 =>
  (ab_fR m0 1 v1 0).bind fun v2 =>
  (ab_rc m0 10 v2).bind fun _ =>
  (dd_X10_total v2 (0 : Int32) m0).bind fun q3 =>
  if q3.1 ≤ 0 then
    bb_X11_utilisation_35  FP.dconst0 q3.2
  else
    (ab_fR q3.2 11 l0 2).bind fun v4 =>
    (ab_fR q3.2 8 v4 5).bind fun v5 =>
    (ab_rc q3.2 10 v5).bind fun _ =>
    (dd_X10_total v5 (0 : Int32) q3.2).bind fun q6 =>
    if ¬ ((FP.ddiv (FP.i2d q6.1) (FP.i2d q3.1)) &&& 0x7fffffffffffffff ≤ 0x7ff0000000000000) then none else
    bb_X11_utilisation_35  (FP.ddiv (FP.i2d q6.1) (FP.i2d q3.1)) q6.2
def dd_X11_spotPrice  (l0 : Nat) (l1 : Int32) (m0 : ab_Mm) : Option ((Int32 ⊕ Nat) × ab_Mm) :=
  (ab_fR m0 11 l0 1).bind fun v1 =>
  (ab_fR m0 1 v1 1).bind fun v2 =>
  (ab_rc m0 11 l0).bind fun _ =>
  (dd_X11_needRow l0 v2 l1 m0).bind fun q3 =>
  match q3.1 with
  | .inl v3 =>
    (ab_fR q3.2 11 l0 2).bind fun v4 =>
    (ab_fR q3.2 8 v4 4).bind fun v5 =>
    (ab_rc q3.2 10 v5).bind fun _ =>
    (dd_X10_get v5 l1 (0 : Int32) q3.2).bind fun q6 =>
    some (.inl q6.1, q6.2)
  | .inr v3 =>
    some (.inr v3, q3.2)
def dd_X11_bestHost  (l0 : Nat) (l1 : Int32) (m0 : ab_Mm) : Option ((Int32 ⊕ Nat) × ab_Mm) :=
  (ab_fR m0 11 l0 1).bind fun v1 =>
  (ab_fR m0 1 v1 1).bind fun v2 =>
  (ab_rc m0 11 l0).bind fun _ =>
  (dd_X11_needRow l0 v2 l1 m0).bind fun q3 =>
  match q3.1 with
  | .inl v3 =>
    (ab_fR q3.2 11 l0 2).bind fun v4 =>
    (ab_fR q3.2 11 l0 1).bind fun v5 =>
    (ab_rc q3.2 8 v4).bind fun _ =>
    (dd_X8_tightestHost v4 v5 l1 q3.2).bind fun q6 =>
    some (.inl q6.1, q6.2)
  | .inr v3 =>
    some (.inr v3, q3.2)
def bb_X11_room_16  : Nat → Nat → Int32 → Int32 → Int32 → ab_Mm → Option ((Int32 ⊕ Nat) × ab_Mm)
  | 0, _, _, _, _, _ => none
  | n + 1, l0, l1, l2, l3, m0 =>
    (ab_fR m0 11 l0 1).bind fun v1 =>
    (ab_fR m0 1 v1 0).bind fun v2 =>
    (ab_fI m0 10 v2 3).bind fun v3 =>
    if v3 ≤ l3 then
      some (.inl l2, m0)
    else
      (ab_fR m0 11 l0 2).bind fun v4 =>
      (ab_fR m0 11 l0 1).bind fun v5 =>
      (ab_rc m0 8 v4).bind fun _ =>
      (dd_X8_roomOn v4 v5 l3 l1 m0).bind fun q6 =>
      bb_X11_room_16  n l0 l1 (l2 + q6.1) (l3 + (1 : Int32)) q6.2
def dd_X11_room  (l0 : Nat) (l1 : Int32) (m0 : ab_Mm) : Option ((Int32 ⊕ Nat) × ab_Mm) :=
  (ab_fR m0 11 l0 1).bind fun v1 =>
  (ab_fR m0 1 v1 1).bind fun v2 =>
  (ab_rc m0 11 l0).bind fun _ =>
  (dd_X11_needRow l0 v2 l1 m0).bind fun q3 =>
  match q3.1 with
  | .inl v3 =>
    bb_X11_room_16  ab_fu l0 l1 (0 : Int32) (0 : Int32) q3.2
  | .inr v3 =>
    some (.inr v3, q3.2)
def dd_X11_running  (l0 : Nat) (m0 : ab_Mm) : Option (Int32 × ab_Mm) :=
  (ab_fR m0 11 l0 2).bind fun v1 =>
  (ab_fI m0 8 v1 1).bind fun v2 =>
  some (v2, m0)
def dd_X11_needInstance  (l0 : Nat) (l1 : Int32) (m0 : ab_Mm) : Option ((Unit ⊕ Nat) × ab_Mm) :=
  (ab_fR m0 11 l0 2).bind fun v1 =>
  (ab_rc m0 8 v1).bind fun _ =>
  (dd_X8_runs v1 l1 m0).bind fun q2 =>
  if q2.1 = 0 then
    some (.inr 0, ab_xm q2.2)
  else
    some (.inl (), q2.2)
def dd_X11_typeOf  (l0 : Nat) (l1 : Int32) (m0 : ab_Mm) : Option ((Int32 ⊕ Nat) × ab_Mm) :=
  (ab_rc m0 11 l0).bind fun _ =>
  (dd_X11_needInstance l0 l1 m0).bind fun q1 =>
  match q1.1 with
  | .inl v1 =>
    (ab_fR q1.2 11 l0 2).bind fun v2 =>
    (ab_fR q1.2 8 v2 2).bind fun v3 =>
    (ab_rc q1.2 10 v3).bind fun _ =>
    (dd_X10_get v3 l1 (1 : Int32) q1.2).bind fun q4 =>
    some (.inl q4.1, q4.2)
  | .inr v1 =>
    some (.inr v1, q1.2)
def dd_X11_tenantOf  (l0 : Nat) (l1 : Int32) (m0 : ab_Mm) : Option ((Int32 ⊕ Nat) × ab_Mm) :=
  (ab_rc m0 11 l0).bind fun _ =>
  (dd_X11_needInstance l0 l1 m0).bind fun q1 =>
  match q1.1 with
  | .inl v1 =>
    (ab_fR q1.2 11 l0 2).bind fun v2 =>
    (ab_fR q1.2 8 v2 2).bind fun v3 =>
    (ab_rc q1.2 10 v3).bind fun _ =>
    (dd_X10_get v3 l1 (0 : Int32) q1.2).bind fun q4 =>
    some (.inl q4.1, q4.2)
  | .inr v1 =>
    some (.inr v1, q1.2)
def dd_X11_hostOf  (l0 : Nat) (l1 : Int32) (m0 : ab_Mm) : Option ((Int32 ⊕ Nat) × ab_Mm) :=
  (ab_rc m0 11 l0).bind fun _ =>
  (dd_X11_needInstance l0 l1 m0).bind fun q1 =>
  match q1.1 with
  | .inl v1 =>
    (ab_fR q1.2 11 l0 2).bind fun v2 =>
    (ab_fR q1.2 8 v2 2).bind fun v3 =>
    (ab_rc q1.2 10 v3).bind fun _ =>
    (dd_X10_get v3 l1 (3 : Int32) q1.2).bind fun q4 =>
    some (.inl q4.1, q4.2)
  | .inr v1 =>
    some (.inr v1, q1.2)
def dd_X11_bidOf  (l0 : Nat) (l1 : Int32) (m0 : ab_Mm) : Option ((Int32 ⊕ Nat) × ab_Mm) :=
  (ab_rc m0 11 l0).bind fun _ =>
  (dd_X11_needInstance l0 l1 m0).bind fun q1 =>
  match q1.1 with
  | .inl v1 =>
    (ab_fR q1.2 11 l0 2).bind fun v2 =>
    (ab_fR q1.2 8 v2 2).bind fun v3 =>
    (ab_rc q1.2 10 v3).bind fun _ =>
    (dd_X10_get v3 l1 (2 : Int32) q1.2).bind fun q4 =>
    some (.inl q4.1, q4.2)
  | .inr v1 =>
    some (.inr v1, q1.2)
def dd_X11_noticeOf  (l0 : Nat) (l1 : Int32) (m0 : ab_Mm) : Option ((Int32 ⊕ Nat) × ab_Mm) :=
  (ab_rc m0 11 l0).bind fun _ =>
  (dd_X11_needInstance l0 l1 m0).bind fun q1 =>
  match q1.1 with
  | .inl v1 =>
    (ab_fR q1.2 11 l0 2).bind fun v2 =>
    (ab_fR q1.2 8 v2 2).bind fun v3 =>
    (ab_rc q1.2 10 v3).bind fun _ =>
    (dd_X10_get v3 l1 (4 : Int32) q1.2).bind fun q4 =>
    some (.inl q4.1, q4.2)
  | .inr v1 =>
    some (.inr v1, q1.2)
def dd_X11_waiting  (l0 : Nat) (m0 : ab_Mm) : Option (Int32 × ab_Mm) :=
  (ab_fR m0 11 l0 2).bind fun v1 =>
  (ab_fR m0 8 v1 3).bind fun v2 =>
  (ab_fI m0 10 v2 3).bind fun v3 =>
  some (v3, m0)
def bb_X11_waitingBid_30  (s0 : Int32) (m0 : ab_Mm) : Option (Int32 × ab_Mm) :=
  some (s0, m0)
def dd_X11_waitingBid  (l0 : Nat) (l1 : Int32) (m0 : ab_Mm) : Option (Int32 × ab_Mm) :=
  (ab_fR m0 11 l0 2).bind fun v1 =>
  (ab_fR m0 8 v1 3).bind fun v2 =>
  (ab_rc m0 10 v2).bind fun _ =>
  (dd_X10_has v2 l1 m0).bind fun q3 =>
  if q3.1 = 0 then
    bb_X11_waitingBid_30  (-1 : Int32) q3.2
  else
    (ab_fR q3.2 11 l0 2).bind fun v4 =>
    (ab_fR q3.2 8 v4 3).bind fun v5 =>
    (ab_rc q3.2 10 v5).bind fun _ =>
    (dd_X10_get v5 l1 (2 : Int32) q3.2).bind fun q6 =>
    bb_X11_waitingBid_30  q6.1 q6.2
def dd_X11_spent  (l0 : Nat) (l1 : Int32) (m0 : ab_Mm) : Option ((Int64 ⊕ Nat) × ab_Mm) :=
  (ab_fR m0 11 l0 1).bind fun v1 =>
  (ab_fR m0 1 v1 2).bind fun v2 =>
  (ab_rc m0 11 l0).bind fun _ =>
  (dd_X11_needRow l0 v2 l1 m0).bind fun q3 =>
  match q3.1 with
  | .inl v3 =>
    (ab_fR q3.2 11 l0 2).bind fun v4 =>
    (ab_rc q3.2 8 v4).bind fun _ =>
    (dd_X8_spentBy v4 l1 q3.2).bind fun q5 =>
    some (.inl q5.1, q5.2)
  | .inr v3 =>
    some (.inr v3, q3.2)
def dd_X11_hourlyBill  (l0 : Nat) (l1 : Int32) (m0 : ab_Mm) : Option ((Int32 ⊕ Nat) × ab_Mm) :=
  (ab_fR m0 11 l0 1).bind fun v1 =>
  (ab_fR m0 1 v1 2).bind fun v2 =>
  (ab_rc m0 11 l0).bind fun _ =>
  (dd_X11_needRow l0 v2 l1 m0).bind fun q3 =>
  match q3.1 with
  | .inl v3 =>
    (ab_fR q3.2 11 l0 5).bind fun v4 =>
    (ab_fR q3.2 11 l0 1).bind fun v5 =>
    (ab_fR q3.2 11 l0 2).bind fun v6 =>
    (ab_rc q3.2 0 v4).bind fun _ =>
    (dd_X0_reckon v4 v5 v6 q3.2).bind fun q7 =>
    (ab_fR q7.2 11 l0 5).bind fun v8 =>
    (ab_fR q7.2 0 v8 0).bind fun v9 =>
    (ab_rc q7.2 10 v9).bind fun _ =>
    (dd_X10_get v9 l1 (0 : Int32) q7.2).bind fun q10 =>
    some (.inl q10.1, q10.2)
  | .inr v3 =>
    some (.inr v3, q3.2)
def dd_X11_covered  (l0 : Nat) (l1 : Int32) (l2 : Int32) (m0 : ab_Mm) : Option ((Int32 ⊕ Nat) × ab_Mm) :=
  (ab_fR m0 11 l0 1).bind fun v1 =>
  (ab_fR m0 1 v1 2).bind fun v2 =>
  (ab_rc m0 11 l0).bind fun _ =>
  (dd_X11_needRow l0 v2 l1 m0).bind fun q3 =>
  match q3.1 with
  | .inl v3 =>
    (ab_fR q3.2 11 l0 1).bind fun v4 =>
    (ab_fR q3.2 1 v4 1).bind fun v5 =>
    (ab_rc q3.2 11 l0).bind fun _ =>
    (dd_X11_needRow l0 v5 l2 q3.2).bind fun q6 =>
    match q6.1 with
    | .inl v6 =>
      (ab_fR q6.2 11 l0 2).bind fun v7 =>
      (ab_rc q6.2 8 v7).bind fun _ =>
      (dd_X8_regulars v7 l1 l2 q6.2).bind fun q8 =>
      (ab_fR q8.2 11 l0 1).bind fun v9 =>
      (ab_fR q8.2 11 l0 2).bind fun v10 =>
      (ab_fI q8.2 8 v10 0).bind fun v11 =>
      (ab_rc q8.2 1 v9).bind fun _ =>
      (dd_X1_reserved v9 l1 l2 v11 q8.2).bind fun q12 =>
      some (.inl (if q12.1 < q8.1 then q12.1 else q8.1), q12.2)
    | .inr v6 =>
      some (.inr v6, q6.2)
  | .inr v3 =>
    some (.inr v3, q3.2)
def dd_X11_isOverBudget  (l0 : Nat) (l1 : Int32) (m0 : ab_Mm) : Option ((Int32 ⊕ Nat) × ab_Mm) :=
  (ab_fR m0 11 l0 1).bind fun v1 =>
  (ab_fR m0 1 v1 2).bind fun v2 =>
  (ab_rc m0 11 l0).bind fun _ =>
  (dd_X11_needRow l0 v2 l1 m0).bind fun q3 =>
  match q3.1 with
  | .inl v3 =>
    (ab_fR q3.2 11 l0 2).bind fun v4 =>
    (ab_fR q3.2 11 l0 1).bind fun v5 =>
    (ab_rc q3.2 8 v4).bind fun _ =>
    (dd_X8_isOver v4 v5 l1 q3.2).bind fun q6 =>
    if ¬ (q6.1 &&& 1 = q6.1) then none else
    some (.inl q6.1, q6.2)
  | .inr v3 =>
    some (.inr v3, q3.2)
def bb_X11_pays_113  (s0 : Int32) (m0 : ab_Mm) : Option ((Int32 ⊕ Nat) × ab_Mm) :=
  if ¬ (s0 &&& 1 = s0) then none else
  some (.inl s0, m0)
def bb_X11_pays_112   (m0 : ab_Mm) : Option ((Int32 ⊕ Nat) × ab_Mm) :=
  bb_X11_pays_113  (0 : Int32) m0
def dd_X11_pays  (l0 : Nat) (l1 : Int32) (m0 : ab_Mm) : Option ((Int32 ⊕ Nat) × ab_Mm) :=
  (ab_fR m0 11 l0 1).bind fun v1 =>
  (ab_fR m0 1 v1 3).bind fun v2 =>
  (ab_rc m0 11 l0).bind fun _ =>
  (dd_X11_needRow l0 v2 l1 m0).bind fun q3 =>
  match q3.1 with
  | .inl v3 =>
    (ab_fR q3.2 11 l0 1).bind fun v4 =>
    (ab_fR q3.2 1 v4 3).bind fun v5 =>
    (ab_rc q3.2 10 v5).bind fun _ =>
    (dd_X10_get v5 l1 (0 : Int32) q3.2).bind fun q6 =>
    (ab_fR q6.2 11 l0 1).bind fun v7 =>
    (ab_fR q6.2 1 v7 3).bind fun v8 =>
    (ab_rc q6.2 10 v8).bind fun _ =>
    (dd_X10_get v8 l1 (1 : Int32) q6.2).bind fun q9 =>
    (ab_fR q9.2 11 l0 1).bind fun v10 =>
    (ab_fR q9.2 1 v10 3).bind fun v11 =>
    (ab_rc q9.2 10 v11).bind fun _ =>
    (dd_X10_get v11 l1 (2 : Int32) q9.2).bind fun q12 =>
    (ab_fR q12.2 11 l0 2).bind fun v13 =>
    (ab_rc q12.2 8 v13).bind fun _ =>
    (dd_X8_regulars v13 q6.1 q9.1 q12.2).bind fun q14 =>
    (ab_fR q14.2 11 l0 1).bind fun v15 =>
    (ab_fR q14.2 11 l0 2).bind fun v16 =>
    (ab_fI q14.2 8 v16 0).bind fun v17 =>
    (ab_rc q14.2 1 v15).bind fun _ =>
    (dd_X1_isActive v15 l1 v17 q14.2).bind fun q18 =>
    if q18.1 = 0 then
      bb_X11_pays_112   q18.2
    else
      (ab_fR q18.2 11 l0 1).bind fun v19 =>
      (ab_rc q18.2 1 v19).bind fun _ =>
      (dd_X1_payment v19 l1 q18.2).bind fun q20 =>
      (ab_fR q20.2 11 l0 1).bind fun v21 =>
      (ab_fR q20.2 1 v21 1).bind fun v22 =>
      (ab_rc q20.2 10 v22).bind fun _ =>
      (dd_X10_get v22 q9.1 (2 : Int32) q20.2).bind fun q23 =>
      if ((if q14.1 < q12.1 then q14.1 else q12.1) * q23.1) ≤ q20.1 then
        bb_X11_pays_112   q23.2
      else
        bb_X11_pays_113  (1 : Int32) q23.2
  | .inr v3 =>
    some (.inr v3, q3.2)
def dd_X11_fewestHosts  (l0 : Nat) (m0 : ab_Mm) : Option (Int32 × ab_Mm) :=
  (ab_fR m0 11 l0 6).bind fun v1 =>
  (ab_fR m0 11 l0 1).bind fun v2 =>
  (ab_fR m0 11 l0 2).bind fun v3 =>
  (ab_rc m0 6 v1).bind fun _ =>
  (dd_X6_fewestFor v1 v2 v3 m0).bind fun q4 =>
  some (q4.1, q4.2)
def dd_X11_cheapestEviction  (l0 : Nat) (l1 : Int32) (l2 : Int32) (m0 : ab_Mm) : Option ((Int32 ⊕ Nat) × ab_Mm) :=
  (ab_fR m0 11 l0 1).bind fun v1 =>
  (ab_fR m0 1 v1 0).bind fun v2 =>
  (ab_rc m0 11 l0).bind fun _ =>
  (dd_X11_needRow l0 v2 l1 m0).bind fun q3 =>
  match q3.1 with
  | .inl v3 =>
    (ab_fR q3.2 11 l0 1).bind fun v4 =>
    (ab_fR q3.2 1 v4 1).bind fun v5 =>
    (ab_rc q3.2 11 l0).bind fun _ =>
    (dd_X11_needRow l0 v5 l2 q3.2).bind fun q6 =>
    match q6.1 with
    | .inl v6 =>
      (ab_fR q6.2 11 l0 7).bind fun v7 =>
      (ab_fR q6.2 11 l0 1).bind fun v8 =>
      (ab_fR q6.2 11 l0 2).bind fun v9 =>
      (ab_rc q6.2 3 v7).bind fun _ =>
      (dd_X3_cheapest v7 v8 v9 l1 l2 q6.2).bind fun q10 =>
      some (.inl q10.1, q10.2)
    | .inr v6 =>
      some (.inr v6, q6.2)
  | .inr v3 =>
    some (.inr v3, q3.2)
def dd_X11_migrationCost  (l0 : Nat) (l1 : Int32) (m0 : ab_Mm) : Option ((Int32 ⊕ Nat) × ab_Mm) :=
  (ab_rc m0 11 l0).bind fun _ =>
  (dd_X11_needInstance l0 l1 m0).bind fun q1 =>
  match q1.1 with
  | .inl v1 =>
    (ab_fR q1.2 11 l0 2).bind fun v2 =>
    (ab_fR q1.2 11 l0 1).bind fun v3 =>
    (ab_rc q1.2 8 v2).bind fun _ =>
    (dd_X8_moveCost v2 v3 l1 q1.2).bind fun q4 =>
    some (.inl q4.1, q4.2)
  | .inr v1 =>
    some (.inr v1, q1.2)
def bb_X11_drainTo_99  (s0 : Int32) (m0 : ab_Mm) : Option ((Int32 ⊕ Nat) × ab_Mm) :=
  some (.inl s0, m0)
def dd_X11_drainTo  (l0 : Nat) (l1 : Int32) (l2 : Int32) (m0 : ab_Mm) : Option ((Int32 ⊕ Nat) × ab_Mm) :=
  (ab_fR m0 11 l0 1).bind fun v1 =>
  (ab_fR m0 1 v1 0).bind fun v2 =>
  (ab_rc m0 11 l0).bind fun _ =>
  (dd_X11_needRow l0 v2 l1 m0).bind fun q3 =>
  match q3.1 with
  | .inl v3 =>
    (ab_rc q3.2 11 l0).bind fun _ =>
    (dd_X11_needInstance l0 l2 q3.2).bind fun q4 =>
    match q4.1 with
    | .inl v4 =>
      (ab_fR q4.2 11 l0 2).bind fun v5 =>
      (ab_fR q4.2 8 v5 2).bind fun v6 =>
      (ab_rc q4.2 10 v6).bind fun _ =>
      (dd_X10_get v6 l2 (3 : Int32) q4.2).bind fun q7 =>
      if q7.1 = l1 then
        (ab_fR q7.2 11 l0 2).bind fun v8 =>
        (ab_rc q7.2 8 v8).bind fun _ =>
        (dd_X8_setOn v8 l1 q7.2).bind fun q9 =>
        (dd_J6_bitCount_0f7a4 q9.1 q9.2).bind fun q10 =>
        if q10.1 ≤ (5 : Int32) then
          (ab_fR q10.2 11 l0 8).bind fun v11 =>
          (ab_fR q10.2 11 l0 1).bind fun v12 =>
          (ab_fR q10.2 11 l0 2).bind fun v13 =>
          (ab_rc q10.2 2 v11).bind fun _ =>
          (dd_X2_plan v11 v12 v13 l1 q10.2).bind fun q14 =>
          if q14.1 = 0 then
            bb_X11_drainTo_99  (-1 : Int32) q14.2
          else
            (ab_fR q14.2 11 l0 8).bind fun v15 =>
            (ab_rc q14.2 2 v15).bind fun _ =>
            (dd_X2_targetOf v15 l2 q14.2).bind fun q16 =>
            bb_X11_drainTo_99  q16.1 q16.2
        else
          some (.inr 1, ab_xm q10.2)
      else
        some (.inr 1, ab_xm q7.2)
    | .inr v4 =>
      some (.inr v4, q4.2)
  | .inr v3 =>
    some (.inr v3, q3.2)
def bb_X11_priceAfter_46  : Nat → Nat → Int32 → Int32 → Int32 → ab_Mm → Option ((Int32 ⊕ Nat) × ab_Mm)
  | 0, _, _, _, _, _ => none
  | n + 1, l0, l1, l2, l3, m0 =>
    if l2 ≤ l3 then
      (ab_fR m0 11 l0 3).bind fun v1 =>
      (ab_fR m0 8 v1 4).bind fun v2 =>
      (ab_rc m0 10 v2).bind fun _ =>
      (dd_X10_get v2 l1 (0 : Int32) m0).bind fun q3 =>
      some (.inl q3.1, q3.2)
    else
      (ab_fR m0 11 l0 3).bind fun v4 =>
      (ab_fR m0 11 l0 1).bind fun v5 =>
      (ab_rc m0 8 v4).bind fun _ =>
      (dd_X8_nextHour v4 v5 m0).bind fun q6 =>
      bb_X11_priceAfter_46  n l0 l1 l2 (l3 + (1 : Int32)) q6.2
def bb_X11_priceAfter_23   (m0 : ab_Mm) : Option ((Int32 ⊕ Nat) × ab_Mm) :=
  some (.inr 2, ab_xm m0)
def dd_X11_priceAfter  (l0 : Nat) (l1 : Int32) (l2 : Int32) (m0 : ab_Mm) : Option ((Int32 ⊕ Nat) × ab_Mm) :=
  (ab_fR m0 11 l0 1).bind fun v1 =>
  (ab_fR m0 1 v1 1).bind fun v2 =>
  (ab_rc m0 11 l0).bind fun _ =>
  (dd_X11_needRow l0 v2 l1 m0).bind fun q3 =>
  match q3.1 with
  | .inl v3 =>
    if l2 < 0 then
      bb_X11_priceAfter_23   q3.2
    else
      if l2 ≤ (200 : Int32) then
        (ab_fR q3.2 11 l0 3).bind fun v4 =>
        (ab_fR q3.2 11 l0 2).bind fun v5 =>
        (ab_rc q3.2 8 v4).bind fun _ =>
        (dd_X8_copyFrom v4 v5 q3.2).bind fun q6 =>
        bb_X11_priceAfter_46  ab_fu l0 l1 l2 (0 : Int32) q6.2
      else
        bb_X11_priceAfter_23   q3.2
  | .inr v3 =>
    some (.inr v3, q3.2)
def bb_X11_evictedAfter_18  : Nat → Nat → Int32 → Int32 → ab_Mm → Option ((Int32 ⊕ Nat) × ab_Mm)
  | 0, _, _, _, _ => none
  | n + 1, l0, l1, l2, m0 =>
    if (200 : Int32) < l2 then
      some (.inl (-1 : Int32), m0)
    else
      (ab_fR m0 11 l0 3).bind fun v1 =>
      (ab_fR m0 11 l0 1).bind fun v2 =>
      (ab_rc m0 8 v1).bind fun _ =>
      (dd_X8_nextHour v1 v2 m0).bind fun q3 =>
      if ((q3.1 >>> (l1 &&& 31)) &&& (1 : Int32)) = 0 then
        bb_X11_evictedAfter_18  n l0 l1 (l2 + (1 : Int32)) q3.2
      else
        some (.inl l2, q3.2)
def dd_X11_evictedAfter  (l0 : Nat) (l1 : Int32) (m0 : ab_Mm) : Option ((Int32 ⊕ Nat) × ab_Mm) :=
  (ab_rc m0 11 l0).bind fun _ =>
  (dd_X11_needInstance l0 l1 m0).bind fun q1 =>
  match q1.1 with
  | .inl v1 =>
    (ab_fR q1.2 11 l0 3).bind fun v2 =>
    (ab_fR q1.2 11 l0 2).bind fun v3 =>
    (ab_rc q1.2 8 v2).bind fun _ =>
    (dd_X8_copyFrom v2 v3 q1.2).bind fun q4 =>
    bb_X11_evictedAfter_18  ab_fu l0 l1 (1 : Int32) q4.2
  | .inr v1 =>
    some (.inr v1, q1.2)
def bb_X11_pass_62  : Nat → Nat → Int32 → Int32 → Int32 → ab_Mm → Option ((Int32 ⊕ Nat) × ab_Mm)
  | 0, _, _, _, _, _ => none
  | n + 1, l0, l1, l2, l3, m0 =>
    if l1 ≤ l3 then
      some (.inl l2, m0)
    else
      (ab_fR m0 11 l0 5).bind fun v1 =>
      (ab_fR m0 11 l0 1).bind fun v2 =>
      (ab_fR m0 11 l0 2).bind fun v3 =>
      (ab_rc m0 0 v1).bind fun _ =>
      (dd_X0_reckon v1 v2 v3 m0).bind fun q4 =>
      (ab_fR q4.2 11 l0 5).bind fun v5 =>
      (ab_fR q4.2 11 l0 2).bind fun v6 =>
      (ab_rc q4.2 0 v5).bind fun _ =>
      (dd_X0_charge v5 v6 q4.2).bind fun q7 =>
      (ab_fR q7.2 11 l0 2).bind fun v8 =>
      (ab_fR q7.2 11 l0 1).bind fun v9 =>
      (ab_rc q7.2 8 v8).bind fun _ =>
      (dd_X8_nextHour v8 v9 q7.2).bind fun q10 =>
      (dd_J6_bitCount_0f7a4 q10.1 q10.2).bind fun q11 =>
      bb_X11_pass_62  n l0 l1 (l2 + q11.1) (l3 + (1 : Int32)) q11.2
def bb_X11_pass_12   (m0 : ab_Mm) : Option ((Int32 ⊕ Nat) × ab_Mm) :=
  some (.inr 2, ab_xm m0)
def dd_X11_pass  (l0 : Nat) (l1 : Int32) (m0 : ab_Mm) : Option ((Int32 ⊕ Nat) × ab_Mm) :=
  if l1 < (1 : Int32) then
    bb_X11_pass_12   m0
  else
    if l1 ≤ (500 : Int32) then
      (ab_fR m0 11 l0 2).bind fun v1 =>
      (ab_fI m0 8 v1 0).bind fun v2 =>
      if (v2 + l1) ≤ (9999 : Int32) then
        (ab_fR m0 11 l0 4).bind fun v3 =>
        (ab_fR m0 11 l0 2).bind fun v4 =>
        (ab_rc m0 4 v3).bind fun _ =>
        (dd_X4_remember v3 v4 m0).bind fun q5 =>
        bb_X11_pass_62  ab_fu l0 l1 (0 : Int32) (0 : Int32) q5.2
      else
        some (.inr 1, ab_xm m0)
    else
      bb_X11_pass_12   m0
def dd_X11_needBudget  (l0 : Nat) (l1 : Int32) (m0 : ab_Mm) : Option ((Unit ⊕ Nat) × ab_Mm) :=
  (ab_fR m0 11 l0 2).bind fun v1 =>
  (ab_fR m0 11 l0 1).bind fun v2 =>
  (ab_rc m0 8 v1).bind fun _ =>
  (dd_X8_isOver v1 v2 l1 m0).bind fun q3 =>
  if q3.1 = 0 then
    some (.inl (), q3.2)
  else
    some (.inr 1, ab_xm q3.2)
def dd_X11_launch  (l0 : Nat) (l1 : Int32) (l2 : Int32) (m0 : ab_Mm) : Option ((Int32 ⊕ Nat) × ab_Mm) :=
  (ab_fR m0 11 l0 1).bind fun v1 =>
  (ab_fR m0 1 v1 2).bind fun v2 =>
  (ab_rc m0 11 l0).bind fun _ =>
  (dd_X11_needRow l0 v2 l1 m0).bind fun q3 =>
  match q3.1 with
  | .inl v3 =>
    (ab_fR q3.2 11 l0 1).bind fun v4 =>
    (ab_fR q3.2 1 v4 1).bind fun v5 =>
    (ab_rc q3.2 11 l0).bind fun _ =>
    (dd_X11_needRow l0 v5 l2 q3.2).bind fun q6 =>
    match q6.1 with
    | .inl v6 =>
      (ab_rc q6.2 11 l0).bind fun _ =>
      (dd_X11_needBudget l0 l1 q6.2).bind fun q7 =>
      match q7.1 with
      | .inl v7 =>
        (ab_fR q7.2 11 l0 2).bind fun v8 =>
        (ab_rc q7.2 8 v8).bind fun _ =>
        (dd_X8_isFull v8 q7.2).bind fun q9 =>
        if q9.1 = 0 then
          (ab_fR q9.2 11 l0 2).bind fun v10 =>
          (ab_fR q9.2 11 l0 1).bind fun v11 =>
          (ab_rc q9.2 8 v10).bind fun _ =>
          (dd_X8_tightestHost v10 v11 l2 q9.2).bind fun q12 =>
          if q12.1 = (-1 : Int32) then
            some (.inr 1, ab_xm q12.2)
          else
            (ab_fR q12.2 11 l0 4).bind fun v13 =>
            (ab_fR q12.2 11 l0 2).bind fun v14 =>
            (ab_rc q12.2 4 v13).bind fun _ =>
            (dd_X4_remember v13 v14 q12.2).bind fun q15 =>
            (ab_fR q15.2 11 l0 2).bind fun v16 =>
            (ab_fR q15.2 11 l0 1).bind fun v17 =>
            (ab_rc q15.2 8 v16).bind fun _ =>
            (dd_X8_start v16 v17 l1 l2 (-1 : Int32) q12.1 q15.2).bind fun q18 =>
            some (.inl q18.1, q18.2)
        else
          some (.inr 1, ab_xm q9.2)
      | .inr v7 =>
        some (.inr v7, q7.2)
    | .inr v6 =>
      some (.inr v6, q6.2)
  | .inr v3 =>
    some (.inr v3, q3.2)
def bb_X11_bid_36   (m0 : ab_Mm) : Option ((Int32 ⊕ Nat) × ab_Mm) :=
  some (.inr 2, ab_xm m0)
def dd_X11_bid  (l0 : Nat) (l1 : Int32) (l2 : Int32) (l3 : Int32) (m0 : ab_Mm) : Option ((Int32 ⊕ Nat) × ab_Mm) :=
  (ab_fR m0 11 l0 1).bind fun v1 =>
  (ab_fR m0 1 v1 2).bind fun v2 =>
  (ab_rc m0 11 l0).bind fun _ =>
  (dd_X11_needRow l0 v2 l1 m0).bind fun q3 =>
  match q3.1 with
  | .inl v3 =>
    (ab_fR q3.2 11 l0 1).bind fun v4 =>
    (ab_fR q3.2 1 v4 1).bind fun v5 =>
    (ab_rc q3.2 11 l0).bind fun _ =>
    (dd_X11_needRow l0 v5 l2 q3.2).bind fun q6 =>
    match q6.1 with
    | .inl v6 =>
      if l3 < (1 : Int32) then
        bb_X11_bid_36   q6.2
      else
        if l3 ≤ (9999 : Int32) then
          (ab_rc q6.2 11 l0).bind fun _ =>
          (dd_X11_needBudget l0 l1 q6.2).bind fun q7 =>
          match q7.1 with
          | .inl v7 =>
            (ab_fR q7.2 11 l0 2).bind fun v8 =>
            (ab_fR q7.2 8 v8 3).bind fun v9 =>
            (ab_rc q7.2 10 v9).bind fun _ =>
            (dd_X10_isFull v9 q7.2).bind fun q10 =>
            if q10.1 = 0 then
              (ab_fR q10.2 11 l0 4).bind fun v11 =>
              (ab_fR q10.2 11 l0 2).bind fun v12 =>
              (ab_rc q10.2 4 v11).bind fun _ =>
              (dd_X4_remember v11 v12 q10.2).bind fun q13 =>
              (ab_fR q13.2 11 l0 2).bind fun v14 =>
              (ab_rc q13.2 8 v14).bind fun _ =>
              (dd_X8_queue v14 l1 l2 l3 q13.2).bind fun q15 =>
              (ab_fR q15.2 11 l0 2).bind fun v16 =>
              (ab_fR q15.2 8 v16 3).bind fun v17 =>
              (ab_fI q15.2 10 v17 3).bind fun v18 =>
              some (.inl v18, q15.2)
            else
              some (.inr 1, ab_xm q10.2)
          | .inr v7 =>
            some (.inr v7, q7.2)
        else
          bb_X11_bid_36   q6.2
    | .inr v6 =>
      some (.inr v6, q6.2)
  | .inr v3 =>
    some (.inr v3, q3.2)
def dd_X11_withdraw  (l0 : Nat) (l1 : Int32) (m0 : ab_Mm) : Option ((Int32 ⊕ Nat) × ab_Mm) :=
  (ab_fR m0 11 l0 1).bind fun v1 =>
  (ab_fR m0 1 v1 2).bind fun v2 =>
  (ab_rc m0 11 l0).bind fun _ =>
  (dd_X11_needRow l0 v2 l1 m0).bind fun q3 =>
  match q3.1 with
  | .inl v3 =>
    (ab_fR q3.2 11 l0 4).bind fun v4 =>
    (ab_fR q3.2 11 l0 2).bind fun v5 =>
    (ab_rc q3.2 4 v4).bind fun _ =>
    (dd_X4_remember v4 v5 q3.2).bind fun q6 =>
    (ab_fR q6.2 11 l0 2).bind fun v7 =>
    (ab_rc q6.2 8 v7).bind fun _ =>
    (dd_X8_dropRequests v7 l1 q6.2).bind fun q8 =>
    some (.inl q8.1, q8.2)
  | .inr v3 =>
    some (.inr v3, q3.2)
def dd_X11_stop  (l0 : Nat) (l1 : Int32) (m0 : ab_Mm) : Option ((Int32 ⊕ Nat) × ab_Mm) :=
  (ab_rc m0 11 l0).bind fun _ =>
  (dd_X11_needInstance l0 l1 m0).bind fun q1 =>
  match q1.1 with
  | .inl v1 =>
    (ab_fR q1.2 11 l0 4).bind fun v2 =>
    (ab_fR q1.2 11 l0 2).bind fun v3 =>
    (ab_rc q1.2 4 v2).bind fun _ =>
    (dd_X4_remember v2 v3 q1.2).bind fun q4 =>
    (ab_fR q4.2 11 l0 2).bind fun v5 =>
    (ab_fR q4.2 8 v5 2).bind fun v6 =>
    (ab_rc q4.2 10 v6).bind fun _ =>
    (dd_X10_get v6 l1 (3 : Int32) q4.2).bind fun q7 =>
    (ab_fR q7.2 11 l0 2).bind fun v8 =>
    (ab_fR q7.2 11 l0 1).bind fun v9 =>
    (ab_rc q7.2 8 v8).bind fun _ =>
    (dd_X8_end v8 v9 l1 q7.2).bind fun q10 =>
    some (.inl q7.1, q10.2)
  | .inr v1 =>
    some (.inr v1, q1.2)
def dd_X11_evict  (l0 : Nat) (l1 : Int32) (m0 : ab_Mm) : Option ((Int32 ⊕ Nat) × ab_Mm) :=
  (ab_rc m0 11 l0).bind fun _ =>
  (dd_X11_needInstance l0 l1 m0).bind fun q1 =>
  match q1.1 with
  | .inl v1 =>
    (ab_fR q1.2 11 l0 2).bind fun v2 =>
    (ab_fR q1.2 8 v2 2).bind fun v3 =>
    (ab_rc q1.2 10 v3).bind fun _ =>
    (dd_X10_get v3 l1 (2 : Int32) q1.2).bind fun q4 =>
    if q4.1 = (-1 : Int32) then
      some (.inr 1, ab_xm q4.2)
    else
      (ab_fR q4.2 11 l0 2).bind fun v5 =>
      (ab_fR q4.2 8 v5 2).bind fun v6 =>
      (ab_rc q4.2 10 v6).bind fun _ =>
      (dd_X10_get v6 l1 (4 : Int32) q4.2).bind fun q7 =>
      if q7.1 = (-1 : Int32) then
        (ab_fR q7.2 11 l0 4).bind fun v8 =>
        (ab_fR q7.2 11 l0 2).bind fun v9 =>
        (ab_rc q7.2 4 v8).bind fun _ =>
        (dd_X4_remember v8 v9 q7.2).bind fun q10 =>
        (ab_fR q10.2 11 l0 2).bind fun v11 =>
        (ab_fR q10.2 11 l0 1).bind fun v12 =>
        (ab_rc q10.2 8 v11).bind fun _ =>
        (dd_X8_giveNotice v11 v12 l1 q10.2).bind fun q13 =>
        (ab_fR q13.2 11 l0 2).bind fun v14 =>
        (ab_fR q13.2 8 v14 2).bind fun v15 =>
        (ab_rc q13.2 10 v15).bind fun _ =>
        (dd_X10_get v15 l1 (4 : Int32) q13.2).bind fun q16 =>
        some (.inl q16.1, q16.2)
      else
        some (.inr 1, ab_xm q7.2)
  | .inr v1 =>
    some (.inr v1, q1.2)
def dd_X11_migrate  (l0 : Nat) (l1 : Int32) (l2 : Int32) (m0 : ab_Mm) : Option ((Int32 ⊕ Nat) × ab_Mm) :=
  (ab_rc m0 11 l0).bind fun _ =>
  (dd_X11_needInstance l0 l1 m0).bind fun q1 =>
  match q1.1 with
  | .inl v1 =>
    (ab_fR q1.2 11 l0 1).bind fun v2 =>
    (ab_fR q1.2 1 v2 0).bind fun v3 =>
    (ab_rc q1.2 11 l0).bind fun _ =>
    (dd_X11_needRow l0 v3 l2 q1.2).bind fun q4 =>
    match q4.1 with
    | .inl v4 =>
      (ab_fR q4.2 11 l0 2).bind fun v5 =>
      (ab_fR q4.2 8 v5 2).bind fun v6 =>
      (ab_rc q4.2 10 v6).bind fun _ =>
      (dd_X10_get v6 l1 (3 : Int32) q4.2).bind fun q7 =>
      if q7.1 = l2 then
        some (.inr 1, ab_xm q7.2)
      else
        (ab_fR q7.2 11 l0 2).bind fun v8 =>
        (ab_fR q7.2 11 l0 1).bind fun v9 =>
        (ab_fR q7.2 11 l0 2).bind fun v10 =>
        (ab_fR q7.2 8 v10 2).bind fun v11 =>
        (ab_rc q7.2 10 v11).bind fun _ =>
        (dd_X10_get v11 l1 (1 : Int32) q7.2).bind fun q12 =>
        (ab_rc q12.2 8 v8).bind fun _ =>
        (dd_X8_fits v8 v9 q12.1 l2 q12.2).bind fun q13 =>
        if q13.1 = 0 then
          some (.inr 1, ab_xm q13.2)
        else
          (ab_fR q13.2 11 l0 4).bind fun v14 =>
          (ab_fR q13.2 11 l0 2).bind fun v15 =>
          (ab_rc q13.2 4 v14).bind fun _ =>
          (dd_X4_remember v14 v15 q13.2).bind fun q16 =>
          (ab_fR q16.2 11 l0 2).bind fun v17 =>
          (ab_fR q16.2 11 l0 1).bind fun v18 =>
          (ab_rc q16.2 8 v17).bind fun _ =>
          (dd_X8_moveTo v17 v18 l1 l2 q16.2).bind fun q19 =>
          some (.inl q19.1, q19.2)
    | .inr v4 =>
      some (.inr v4, q4.2)
  | .inr v1 =>
    some (.inr v1, q1.2)
def bb_X11_drain_33   (m0 : ab_Mm) : Option ((Int32 ⊕ Nat) × ab_Mm) :=
  some (.inr 1, ab_xm m0)
def dd_X11_drain  (l0 : Nat) (l1 : Int32) (m0 : ab_Mm) : Option ((Int32 ⊕ Nat) × ab_Mm) :=
  (ab_fR m0 11 l0 1).bind fun v1 =>
  (ab_fR m0 1 v1 0).bind fun v2 =>
  (ab_rc m0 11 l0).bind fun _ =>
  (dd_X11_needRow l0 v2 l1 m0).bind fun q3 =>
  match q3.1 with
  | .inl v3 =>
    (ab_fR q3.2 11 l0 2).bind fun v4 =>
    (ab_rc q3.2 8 v4).bind fun _ =>
    (dd_X8_setOn v4 l1 q3.2).bind fun q5 =>
    (dd_J6_bitCount_0f7a4 q5.1 q5.2).bind fun q6 =>
    if q6.1 = 0 then
      bb_X11_drain_33   q6.2
    else
      if q6.1 ≤ (5 : Int32) then
        (ab_fR q6.2 11 l0 8).bind fun v7 =>
        (ab_fR q6.2 11 l0 1).bind fun v8 =>
        (ab_fR q6.2 11 l0 2).bind fun v9 =>
        (ab_rc q6.2 2 v7).bind fun _ =>
        (dd_X2_plan v7 v8 v9 l1 q6.2).bind fun q10 =>
        if q10.1 = 0 then
          some (.inr 1, ab_xm q10.2)
        else
          (ab_fR q10.2 11 l0 4).bind fun v11 =>
          (ab_fR q10.2 11 l0 2).bind fun v12 =>
          (ab_rc q10.2 4 v11).bind fun _ =>
          (dd_X4_remember v11 v12 q10.2).bind fun q13 =>
          (ab_fR q13.2 11 l0 8).bind fun v14 =>
          (ab_fR q13.2 11 l0 1).bind fun v15 =>
          (ab_fR q13.2 11 l0 2).bind fun v16 =>
          (ab_rc q13.2 2 v14).bind fun _ =>
          (dd_X2_carryOut v14 v15 v16 q13.2).bind fun q17 =>
          some (.inl q6.1, q17.2)
      else
        bb_X11_drain_33   q6.2
  | .inr v3 =>
    some (.inr v3, q3.2)
def bb_X11_undo_25  (s0 : Int32) (m0 : ab_Mm) : Option (Int32 × ab_Mm) :=
  some (s0, m0)
def dd_X11_undo  (l0 : Nat) (m0 : ab_Mm) : Option (Int32 × ab_Mm) :=
  (ab_fR m0 11 l0 4).bind fun v1 =>
  (ab_fR m0 11 l0 2).bind fun v2 =>
  (ab_rc m0 4 v1).bind fun _ =>
  (dd_X4_takeBack v1 v2 m0).bind fun q3 =>
  if q3.1 = 0 then
    bb_X11_undo_25  (-1 : Int32) q3.2
  else
    (ab_fR q3.2 11 l0 4).bind fun v4 =>
    (ab_fI q3.2 4 v4 2).bind fun v5 =>
    bb_X11_undo_25  v5 q3.2
def bb_X11_needSlot_9   (m0 : ab_Mm) : Option ((Unit ⊕ Nat) × ab_Mm) :=
  some (.inr 0, ab_xm m0)
def dd_X11_needSlot  (l0 : Nat) (l1 : Int32) (m0 : ab_Mm) : Option ((Unit ⊕ Nat) × ab_Mm) :=
  if l1 < 0 then
    bb_X11_needSlot_9   m0
  else
    if l1 < (2 : Int32) then
      some (.inl (), m0)
    else
      bb_X11_needSlot_9   m0
def dd_X11_saveSnapshot  (l0 : Nat) (l1 : Int32) (m0 : ab_Mm) : Option ((Int32 ⊕ Nat) × ab_Mm) :=
  (ab_rc m0 11 l0).bind fun _ =>
  (dd_X11_needSlot l0 l1 m0).bind fun q1 =>
  match q1.1 with
  | .inl v1 =>
    (ab_fR q1.2 11 l0 4).bind fun v2 =>
    (ab_rc q1.2 4 v2).bind fun _ =>
    (dd_X4_isSaved v2 l1 q1.2).bind fun q3 =>
    (ab_fR q3.2 11 l0 4).bind fun v4 =>
    (ab_fR q3.2 11 l0 2).bind fun v5 =>
    (ab_rc q3.2 4 v4).bind fun _ =>
    (dd_X4_save v4 l1 v5 q3.2).bind fun q6 =>
    if ¬ (q3.1 &&& 1 = q3.1) then none else
    some (.inl q3.1, q6.2)
  | .inr v1 =>
    some (.inr v1, q1.2)
def dd_X11_restoreSnapshot  (l0 : Nat) (l1 : Int32) (m0 : ab_Mm) : Option ((Int32 ⊕ Nat) × ab_Mm) :=
  (ab_rc m0 11 l0).bind fun _ =>
  (dd_X11_needSlot l0 l1 m0).bind fun q1 =>
  match q1.1 with
  | .inl v1 =>
    (ab_fR q1.2 11 l0 4).bind fun v2 =>
    (ab_rc q1.2 4 v2).bind fun _ =>
    (dd_X4_isSaved v2 l1 q1.2).bind fun q3 =>
    if q3.1 = 0 then
      some (.inr 1, ab_xm q3.2)
    else
      (ab_fR q3.2 11 l0 4).bind fun v4 =>
      (ab_fR q3.2 11 l0 2).bind fun v5 =>
      (ab_rc q3.2 4 v4).bind fun _ =>
      (dd_X4_restore v4 l1 v5 q3.2).bind fun q6 =>
      (ab_fR q6.2 11 l0 2).bind fun v7 =>
      (ab_fI q6.2 8 v7 0).bind fun v8 =>
      some (.inl v8, q6.2)
  | .inr v1 =>
    some (.inr v1, q1.2)
def dd_X12_emit  (l0 : Nat) (l1 : Int32) (m0 : ab_Mm) : Option (Int32 × ab_Mm) :=
  (ab_fR m0 12 l0 8).bind fun v1 =>
  (ab_fR m0 12 l0 7).bind fun v2 =>
  (ab_ld m0 1 v2 (1 : Int32)).bind fun v3 =>
  (ab_st m0 1 v1 ((820 : Int32) + v3) l1).bind fun m4 =>
  (ab_fR m4 12 l0 7).bind fun v5 =>
  (ab_ld m4 1 v5 (1 : Int32)).bind fun v6 =>
  (ab_st m4 1 v5 (1 : Int32) (v6 + (1 : Int32))).bind fun m7 =>
  some ((1 : Int32), m7)
def bb_X12_clearDraft_2  : Nat → Nat → Int32 → ab_Mm → Option (Unit × ab_Mm)
  | 0, _, _, _ => none
  | n + 1, l0, l1, m0 =>
    if (4 : Int32) ≤ l1 then
      (ab_fR m0 12 l0 2).bind fun v1 =>
      (ab_st m0 1 v1 (11 : Int32) (20 : Int32)).bind fun m2 =>
      (ab_fR m2 12 l0 2).bind fun v3 =>
      (ab_st m2 1 v3 (12 : Int32) (2 : Int32)).bind fun m4 =>
      (ab_fR m4 12 l0 2).bind fun v5 =>
      (ab_st m4 1 v5 (13 : Int32) (100 : Int32)).bind fun m6 =>
      (ab_fR m6 12 l0 7).bind fun v7 =>
      (ab_st m6 1 v7 (1 : Int32) (0 : Int32)).bind fun m8 =>
      (ab_rc m8 12 l0).bind fun _ =>
      (dd_X12_emit l0 (2 : Int32) m8).bind fun q9 =>
      some ((), q9.2)
    else
      (ab_fR m0 12 l0 2).bind fun v10 =>
      (ab_st m0 1 v10 ((7 : Int32) + l1) (0 : Int32)).bind fun m11 =>
      bb_X12_clearDraft_2  n l0 (l1 + (1 : Int32)) m11
def dd_X12_clearDraft  (l0 : Nat) (m0 : ab_Mm) : Option (Unit × ab_Mm) :=
  bb_X12_clearDraft_2  ab_fu l0 (0 : Int32) m0
def bb_X12_lifts_2  : Nat → Nat → Int32 → ab_Mm → Option (Unit × ab_Mm)
  | 0, _, _, _ => none
  | n + 1, l0, l1, m0 =>
    (ab_len m0 1 l0).bind fun v1 =>
    if (2 : Int32) = 0 then none else
    if (v1 / (2 : Int32)) ≤ l1 then
      some ((), m0)
    else
      (ab_len m0 1 l0).bind fun v2 =>
      if (2 : Int32) = 0 then none else
      (ab_ld m0 1 l0 ((v2 / (2 : Int32)) + l1)).bind fun v3 =>
      (ab_st m0 1 l0 l1 v3).bind fun m4 =>
      bb_X12_lifts_2  n l0 (l1 + (1 : Int32)) m4
def dd_X12_lifts  (l0 : Nat) (m0 : ab_Mm) : Option (Unit × ab_Mm) :=
  bb_X12_lifts_2  ab_fu l0 (0 : Int32) m0
def dd_X12_liftsAll  (l0 : Nat) (m0 : ab_Mm) : Option (Unit × ab_Mm) :=
  (ab_fR m0 12 l0 2).bind fun v1 =>
  (dd_X12_lifts v1 m0).bind fun q2 =>
  (ab_fR q2.2 12 l0 3).bind fun v3 =>
  (dd_X12_lifts v3 q2.2).bind fun q4 =>
  (ab_fR q4.2 12 l0 4).bind fun v5 =>
  (dd_X12_lifts v5 q4.2).bind fun q6 =>
  (ab_fR q6.2 12 l0 5).bind fun v7 =>
  (dd_X12_lifts v7 q6.2).bind fun q8 =>
  (ab_fR q8.2 12 l0 6).bind fun v9 =>
  (dd_X12_lifts v9 q8.2).bind fun q10 =>
  (ab_fR q10.2 12 l0 7).bind fun v11 =>
  (dd_X12_lifts v11 q10.2).bind fun q12 =>
  (ab_fR q12.2 12 l0 8).bind fun v13 =>
  (dd_X12_lifts v13 q12.2).bind fun q14 =>
  some ((), q14.2)
def dd_X12_of  (l0 : Int32) (l1 : Int32) (m0 : ab_Mm) : Option (Int32 × ab_Mm) :=
  some ((((14 : Int32) + ((6 : Int32) * l0)) + l1), m0)
def bb_X12_allCpu_4  : Nat → Nat → Int32 → Int32 → ab_Mm → Option (Int32 × ab_Mm)
  | 0, _, _, _, _ => none
  | n + 1, l0, l1, l2, m0 =>
    (ab_fR m0 12 l0 2).bind fun v1 =>
    (ab_ld m0 1 v1 (0 : Int32)).bind fun v2 =>
    if v2 ≤ l2 then
      some (l1, m0)
    else
      (ab_fR m0 12 l0 3).bind fun v3 =>
      (ab_ld m0 1 v3 ((2 : Int32) * l2)).bind fun v4 =>
      bb_X12_allCpu_4  n l0 (l1 + v4) (l2 + (1 : Int32)) m0
def dd_X12_allCpu  (l0 : Nat) (m0 : ab_Mm) : Option (Int32 × ab_Mm) :=
  bb_X12_allCpu_4  ab_fu l0 (0 : Int32) (0 : Int32) m0
def bb_X12_runs_22  (s0 : Int32) (m0 : ab_Mm) : Option (Int32 × ab_Mm) :=
  if ¬ (s0 &&& 1 = s0) then none else
  some (s0, m0)
def dd_X12_runs  (l0 : Nat) (l1 : Int32) (m0 : ab_Mm) : Option (Int32 × ab_Mm) :=
  (ab_fR m0 12 l0 1).bind fun v1 =>
  (dd_X12_of l1 (0 : Int32) m0).bind fun q2 =>
  (ab_ldJ q2.2 v1 q2.1).bind fun v3 =>
  if (lg_cmp v3 (-1 : Int64)) = 0 then
    bb_X12_runs_22  (0 : Int32) q2.2
  else
    bb_X12_runs_22  (1 : Int32) q2.2
def dd_X12_its  (l0 : Nat) (l1 : Int32) (l2 : Int32) (m0 : ab_Mm) : Option (Int32 × ab_Mm) :=
  (ab_fR m0 12 l0 1).bind fun v1 =>
  (dd_X12_of l1 l2 m0).bind fun q2 =>
  (ab_ldJ q2.2 v1 q2.1).bind fun v3 =>
  some (v3.toInt32, q2.2)
def bb_X12_loadCpu_36 (r4 : Nat → Int32 → Int32 → ab_Mm → Option (Int32 × ab_Mm)) (l0 : Nat) (l2 : Int32) (s0 : Int32) (s1 : Int32) (m0 : ab_Mm) : Option (Int32 × ab_Mm) :=
  r4 l0 (s0 + s1) (l2 + (1 : Int32)) m0
def bb_X12_loadCpu_4  : Nat → Nat → Int32 → Int32 → ab_Mm → Option (Int32 × ab_Mm)
  | 0, _, _, _, _ => none
  | n + 1, l0, l1, l2, m0 =>
    if (12 : Int32) ≤ l2 then
      some (l1, m0)
    else
      (ab_rc m0 12 l0).bind fun _ =>
      (dd_X12_runs l0 l2 m0).bind fun q1 =>
      if q1.1 = 0 then
        bb_X12_loadCpu_36 (bb_X12_loadCpu_4  n) l0 l2 l1 (0 : Int32) q1.2
      else
        (ab_fR q1.2 12 l0 4).bind fun v2 =>
        (ab_rc q1.2 12 l0).bind fun _ =>
        (dd_X12_its l0 l2 (1 : Int32) q1.2).bind fun q3 =>
        (ab_ld q3.2 1 v2 ((3 : Int32) * q3.1)).bind fun v4 =>
        bb_X12_loadCpu_36 (bb_X12_loadCpu_4  n) l0 l2 l1 v4 q3.2
def dd_X12_loadCpu  (l0 : Nat) (m0 : ab_Mm) : Option (Int32 × ab_Mm) :=
  bb_X12_loadCpu_4  ab_fu l0 (0 : Int32) (0 : Int32) m0
def bb_X12_setsPrices_97 (r25 : Nat → Int32 → Int32 → ab_Mm → Option (Unit × ab_Mm)) (l0 : Nat) (l2 : Int32) (l3 : Int32) (s0 : Nat) (s1 : Int32) (s2 : Int64) (m0 : ab_Mm) : Option (Unit × ab_Mm) :=
  (ab_stJ m0 s0 s1 s2).bind fun m1 =>
  r25 l0 l2 (l3 + (1 : Int32)) m1
def bb_X12_setsPrices_25  : Nat → Nat → Int32 → Int32 → ab_Mm → Option (Unit × ab_Mm)
  | 0, _, _, _, _ => none
  | n + 1, l0, l2, l3, m0 =>
    (ab_fR m0 12 l0 2).bind fun v1 =>
    (ab_ld m0 1 v1 (1 : Int32)).bind fun v2 =>
    if v2 ≤ l3 then
      some ((), m0)
    else
      (ab_fR m0 12 l0 4).bind fun v3 =>
      (ab_ld m0 1 v3 (((3 : Int32) * l3) + (2 : Int32))).bind fun v4 =>
      (ab_fR m0 12 l0 2).bind fun v5 =>
      (ab_ld m0 1 v5 (4 : Int32)).bind fun v6 =>
      (ab_fR m0 12 l0 2).bind fun v7 =>
      (ab_ld m0 1 v7 (6 : Int32)).bind fun v8 =>
      if (100 : Int32) = 0 then none else
      if (100 : Int32) = 0 then none else
      (ab_fR m0 12 l0 1).bind fun v9 =>
      if v4 ≤ ((v4 * (v6 + ((v8 * l2) / (100 : Int32)))) / (100 : Int32)) then
        bb_X12_setsPrices_97 (bb_X12_setsPrices_25  n) l0 l2 l3 v9 ((2 : Int32) + l3) v4.toInt64 m0
      else
        bb_X12_setsPrices_97 (bb_X12_setsPrices_25  n) l0 l2 l3 v9 ((2 : Int32) + l3) (((v4 * (v6 + ((v8 * l2) / (100 : Int32)))) / (100 : Int32)).toInt64) m0
def bb_X12_setsPrices_22  (l0 : Nat) (s0 : Int32) (m0 : ab_Mm) : Option (Unit × ab_Mm) :=
  bb_X12_setsPrices_25  ab_fu l0 s0 (0 : Int32) m0
def dd_X12_setsPrices  (l0 : Nat) (m0 : ab_Mm) : Option (Unit × ab_Mm) :=
  (ab_rc m0 12 l0).bind fun _ =>
  (dd_X12_allCpu l0 m0).bind fun q1 =>
  if q1.1 = 0 then
    bb_X12_setsPrices_22  l0 (0 : Int32) q1.2
  else
    (ab_rc q1.2 12 l0).bind fun _ =>
    (dd_X12_loadCpu l0 q1.2).bind fun q2 =>
    if q1.1 = 0 then none else
    bb_X12_setsPrices_22  l0 (((100 : Int32) * q2.1) / q1.1) q2.2
def bb_X12_begins_23  : Nat → Nat → Int32 → ab_Mm → Option (Unit × ab_Mm)
  | 0, _, _, _ => none
  | n + 1, l0, l1, m0 =>
    if (12 : Int32) ≤ l1 then
      (ab_rc m0 12 l0).bind fun _ =>
      (dd_X12_setsPrices l0 m0).bind fun q1 =>
      (ab_pI q1.2 12 l0 29 (0 : Int32)).bind fun m2 =>
      (ab_fR m2 12 l0 32).bind fun v3 =>
      (ab_st m2 3 v3 (0 : Int32) ((0 : Int32) &&& 1)).bind fun m4 =>
      (ab_fR m4 12 l0 32).bind fun v5 =>
      (ab_st m4 3 v5 (1 : Int32) ((0 : Int32) &&& 1)).bind fun m6 =>
      some ((), m6)
    else
      (ab_fR m0 12 l0 1).bind fun v7 =>
      (dd_X12_of l1 (0 : Int32) m0).bind fun q8 =>
      (ab_stJ q8.2 v7 q8.1 (-1 : Int64)).bind fun m9 =>
      bb_X12_begins_23  n l0 (l1 + (1 : Int32)) m9
def bb_X12_begins_2  : Nat → Nat → Int32 → ab_Mm → Option (Unit × ab_Mm)
  | 0, _, _, _ => none
  | n + 1, l0, l1, m0 =>
    if (116 : Int32) ≤ l1 then
      bb_X12_begins_23  ab_fu l0 (0 : Int32) m0
    else
      (ab_fR m0 12 l0 1).bind fun v1 =>
      (ab_stJ m0 v1 l1 (0 : Int64)).bind fun m2 =>
      bb_X12_begins_2  n l0 (l1 + (1 : Int32)) m2
def dd_X12_begins  (l0 : Nat) (m0 : ab_Mm) : Option (Unit × ab_Mm) :=
  bb_X12_begins_2  ab_fu l0 (0 : Int32) m0
def dd_X12_init  (l0 : Nat) (m0 : ab_Mm) : Option (Unit × ab_Mm) :=
  (ab_na m0 4 (116 : Int32)).bind fun q1 =>
  (ab_pR q1.2 12 l0 1 q1.1).bind fun m2 =>
  (ab_na m2 1 (14 : Int32)).bind fun q3 =>
  (ab_pR q3.2 12 l0 2 q3.1).bind fun m4 =>
  (ab_na m4 1 (32 : Int32)).bind fun q5 =>
  (ab_pR q5.2 12 l0 3 q5.1).bind fun m6 =>
  (ab_na m6 1 (36 : Int32)).bind fun q7 =>
  (ab_pR q7.2 12 l0 4 q7.1).bind fun m8 =>
  (ab_na m8 1 (12 : Int32)).bind fun q9 =>
  (ab_pR q9.2 12 l0 5 q9.1).bind fun m10 =>
  (ab_na m10 1 (96 : Int32)).bind fun q11 =>
  (ab_pR q11.2 12 l0 6 q11.1).bind fun m12 =>
  (ab_na m12 1 (2 : Int32)).bind fun q13 =>
  (ab_pR q13.2 12 l0 7 q13.1).bind fun m14 =>
  (ab_na m14 1 (1640 : Int32)).bind fun q15 =>
  (ab_pR q15.2 12 l0 8 q15.1).bind fun m16 =>
  (ab_na m16 2 (800 : Int32)).bind fun q17 =>
  (ab_pR q17.2 12 l0 9 q17.1).bind fun m18 =>
  (ab_pI m18 12 l0 17 (-1 : Int32)).bind fun m19 =>
  (ab_na m19 1 (40 : Int32)).bind fun q20 =>
  (ab_pR q20.2 12 l0 21 q20.1).bind fun m21 =>
  (ab_na m21 1 (4096 : Int32)).bind fun q22 =>
  (ab_pR q22.2 12 l0 22 q22.1).bind fun m23 =>
  (ab_na m23 1 (4096 : Int32)).bind fun q24 =>
  (ab_pR q24.2 12 l0 23 q24.1).bind fun m25 =>
  (ab_na m25 1 (4096 : Int32)).bind fun q26 =>
  (ab_pR q26.2 12 l0 24 q26.1).bind fun m27 =>
  (ab_na m27 1 (4096 : Int32)).bind fun q28 =>
  (ab_pR q28.2 12 l0 25 q28.1).bind fun m29 =>
  (ab_na m29 1 (12 : Int32)).bind fun q30 =>
  (ab_pR q30.2 12 l0 26 q30.1).bind fun m31 =>
  (ab_na m31 4 (116 : Int32)).bind fun q32 =>
  (ab_pR q32.2 12 l0 28 q32.1).bind fun m33 =>
  (ab_na m33 4 (1160 : Int32)).bind fun q34 =>
  (ab_pR q34.2 12 l0 30 q34.1).bind fun m35 =>
  (ab_na m35 4 (232 : Int32)).bind fun q36 =>
  (ab_pR q36.2 12 l0 31 q36.1).bind fun m37 =>
  (ab_na m37 3 (2 : Int32)).bind fun q38 =>
  (ab_pR q38.2 12 l0 32 q38.1).bind fun m39 =>
  (ab_rc m39 12 l0).bind fun _ =>
  (dd_X12_clearDraft l0 m39).bind fun q40 =>
  (ab_rc q40.2 12 l0).bind fun _ =>
  (dd_X12_liftsAll l0 q40.2).bind fun q41 =>
  (ab_rc q41.2 12 l0).bind fun _ =>
  (dd_X12_begins l0 q41.2).bind fun q42 =>
  some ((), q42.2)
def dd_X12_thrown  (l0 : Nat) (m0 : ab_Mm) : Option (Int32 × ab_Mm) :=
  (ab_fI m0 12 l0 0).bind fun v1 =>
  some (v1, m0)
def bb_X12_within_18  (s0 : Int32) (m0 : ab_Mm) : Option (Int32 × ab_Mm) :=
  if ¬ (s0 &&& 1 = s0) then none else
  some (s0, m0)
def bb_X12_within_17   (m0 : ab_Mm) : Option (Int32 × ab_Mm) :=
  bb_X12_within_18  (0 : Int32) m0
def dd_X12_within  (l0 : Int64) (l2 : Int64) (l4 : Int64) (m0 : ab_Mm) : Option (Int32 × ab_Mm) :=
  if (lg_cmp l0 l2) < 0 then
    bb_X12_within_17   m0
  else
    if 0 < (lg_cmp l0 l4) then
      bb_X12_within_17   m0
    else
      bb_X12_within_18  (1 : Int32) m0
def bb_X12_has_14  (s0 : Int32) (m0 : ab_Mm) : Option (Int32 × ab_Mm) :=
  if ¬ (s0 &&& 1 = s0) then none else
  some (s0, m0)
def dd_X12_has  (l0 : Int32) (l1 : Int32) (m0 : ab_Mm) : Option (Int32 × ab_Mm) :=
  if ((l0 >>> (l1 &&& 31)) &&& (1 : Int32)) = (1 : Int32) then
    bb_X12_has_14  (1 : Int32) m0
  else
    bb_X12_has_14  (0 : Int32) m0
def bb_X12_bits_4  : Nat → Int32 → Int32 → ab_Mm → Option (Int32 × ab_Mm)
  | 0, _, _, _ => none
  | n + 1, l1, l2, m0 =>
    if l2 = 0 then
      some (l1, m0)
    else
      bb_X12_bits_4  n (l1 + (1 : Int32)) (l2 &&& (l2 - (1 : Int32))) m0
def dd_X12_bits  (l0 : Int32) (m0 : ab_Mm) : Option (Int32 × ab_Mm) :=
  bb_X12_bits_4  ab_fu (0 : Int32) l0 m0
def bb_X12_throwsIf_28  (s0 : Int32) (m0 : ab_Mm) : Option (Int32 × ab_Mm) :=
  if ¬ (s0 &&& 1 = s0) then none else
  some (s0, m0)
def bb_X12_throwsIf_16  (l0 : Nat) (m0 : ab_Mm) : Option (Int32 × ab_Mm) :=
  (ab_fI m0 12 l0 0).bind fun v1 =>
  if v1 ≤ 0 then
    bb_X12_throwsIf_28  (0 : Int32) m0
  else
    bb_X12_throwsIf_28  (1 : Int32) m0
def dd_X12_throwsIf  (l0 : Nat) (l1 : Int32) (l2 : Int32) (m0 : ab_Mm) : Option (Int32 × ab_Mm) :=
  (ab_fI m0 12 l0 0).bind fun v1 =>
  if v1 = 0 then
    if l1 = 0 then
      bb_X12_throwsIf_16  l0 m0
    else
      (ab_pI m0 12 l0 0 l2).bind fun m2 =>
      bb_X12_throwsIf_16  l0 m2
  else
    bb_X12_throwsIf_16  l0 m0
def bb_X12_bytesOf_3  : Nat → Nat → Int32 → Int32 → ab_Mm → Option (Unit × ab_Mm)
  | 0, _, _, _, _ => none
  | n + 1, l0, l1, l2, m0 =>
    if l2 < 0 then
      some ((), m0)
    else
      (ab_fR m0 12 l0 9).bind fun v1 =>
      (ab_fI m0 12 l0 10).bind fun v2 =>
      (ab_st m0 2 v1 v2 (((l1 >>> (l2 &&& 31)).toInt8.toInt32).toInt8.toInt32)).bind fun m3 =>
      (ab_fI m3 12 l0 10).bind fun v4 =>
      (ab_pI m3 12 l0 10 (v4 + (1 : Int32))).bind fun m5 =>
      bb_X12_bytesOf_3  n l0 l1 (l2 + (-8 : Int32)) m5
def dd_X12_bytesOf  (l0 : Nat) (l1 : Int32) (m0 : ab_Mm) : Option (Unit × ab_Mm) :=
  bb_X12_bytesOf_3  ab_fu l0 l1 (24 : Int32) m0
def dd_X12_append  (l0 : Nat) (l1 : Int32) (l2 : Int32) (l3 : Int32) (l4 : Int32) (l5 : Int32) (m0 : ab_Mm) : Option (Int32 × ab_Mm) :=
  (ab_pI m0 12 l0 0 (0 : Int32)).bind fun m1 =>
  (ab_fI m1 12 l0 10).bind fun v2 =>
  if (v2 + (20 : Int32)) ≤ (800 : Int32) then
    (ab_rc m1 12 l0).bind fun _ =>
    (dd_X12_bytesOf l0 l1 m1).bind fun q3 =>
    (ab_rc q3.2 12 l0).bind fun _ =>
    (dd_X12_bytesOf l0 l2 q3.2).bind fun q4 =>
    (ab_rc q4.2 12 l0).bind fun _ =>
    (dd_X12_bytesOf l0 l3 q4.2).bind fun q5 =>
    (ab_rc q5.2 12 l0).bind fun _ =>
    (dd_X12_bytesOf l0 l4 q5.2).bind fun q6 =>
    (ab_rc q6.2 12 l0).bind fun _ =>
    (dd_X12_bytesOf l0 l5 q6.2).bind fun q7 =>
    (ab_fI q7.2 12 l0 10).bind fun v8 =>
    some (v8, q7.2)
  else
    some ((-1 : Int32), m1)
def bb_X12_byteAt_22  (s0 : Int32) (m0 : ab_Mm) : Option (Int32 × ab_Mm) :=
  some (s0, m0)
def dd_X12_byteAt  (l0 : Nat) (l1 : Int32) (m0 : ab_Mm) : Option (Int32 × ab_Mm) :=
  (ab_fI m0 12 l0 11).bind fun v1 =>
  if v1 ≤ l1 then
    bb_X12_byteAt_22  (-1 : Int32) m0
  else
    (ab_fR m0 12 l0 9).bind fun v2 =>
    (ab_ld m0 2 v2 l1).bind fun v3 =>
    bb_X12_byteAt_22  (v3 &&& (255 : Int32)) m0
def bb_X12_isSign_47  (s0 : Int32) (m0 : ab_Mm) : Option (Int32 × ab_Mm) :=
  if ¬ (s0 &&& 1 = s0) then none else
  some (s0, m0)
def bb_X12_isSign_42   (m0 : ab_Mm) : Option (Int32 × ab_Mm) :=
  bb_X12_isSign_47  (1 : Int32) m0
def dd_X12_isSign  (l0 : Int32) (m0 : ab_Mm) : Option (Int32 × ab_Mm) :=
  if l0 = (59 : Int32) then
    bb_X12_isSign_42   m0
  else
    if l0 = (40 : Int32) then
      bb_X12_isSign_42   m0
    else
      if l0 = (41 : Int32) then
        bb_X12_isSign_42   m0
      else
        if l0 = (43 : Int32) then
          bb_X12_isSign_42   m0
        else
          if l0 = (45 : Int32) then
            bb_X12_isSign_42   m0
          else
            if l0 = (42 : Int32) then
              bb_X12_isSign_42   m0
            else
              if l0 = (47 : Int32) then
                bb_X12_isSign_42   m0
              else
                bb_X12_isSign_47  (0 : Int32) m0
def bb_X12_advance_295   (m0 : ab_Mm) : Option (Unit × ab_Mm) :=
  some ((), m0)
def bb_X12_advance_292  (s0 : Nat) (s1 : Int32) (m0 : ab_Mm) : Option (Unit × ab_Mm) :=
  (ab_pI m0 12 s0 14 s1).bind fun m1 =>
  bb_X12_advance_295   m1
def bb_X12_advance_258  (s0 : Nat) (s1 : Int32) (m0 : ab_Mm) : Option (Unit × ab_Mm) :=
  (ab_pI m0 12 s0 14 s1).bind fun m1 =>
  bb_X12_advance_295   m1
def bb_X12_advance_223 (r162 : Nat → ab_Mm → Option (Unit × ab_Mm)) (l0 : Nat) (s0 : Nat) (s1 : Int32) (m0 : ab_Mm) : Option (Unit × ab_Mm) :=
  (ab_pI m0 12 s0 15 s1).bind fun m1 =>
  (ab_fI m1 12 l0 13).bind fun v2 =>
  (ab_pI m1 12 l0 13 (v2 + (1 : Int32))).bind fun m3 =>
  r162 l0 m3
def bb_X12_advance_162  : Nat → Nat → ab_Mm → Option (Unit × ab_Mm)
  | 0, _, _ => none
  | n + 1, l0, m0 =>
    (ab_fI m0 12 l0 13).bind fun v1 =>
    (ab_rc m0 12 l0).bind fun _ =>
    (dd_X12_byteAt l0 v1 m0).bind fun q2 =>
    (dd_X12_within q2.1.toInt64 (48 : Int64) (57 : Int64) q2.2).bind fun q3 =>
    if q3.1 = 0 then
      (ab_fI q3.2 12 l0 13).bind fun v4 =>
      (ab_fI q3.2 12 l0 12).bind fun v5 =>
      if (v4 - v5) ≤ (4 : Int32) then
        bb_X12_advance_258  l0 (2 : Int32) q3.2
      else
        bb_X12_advance_258  l0 (4 : Int32) q3.2
    else
      (ab_fI q3.2 12 l0 13).bind fun v6 =>
      (ab_fI q3.2 12 l0 12).bind fun v7 =>
      if (4 : Int32) ≤ (v6 - v7) then
        (ab_fI q3.2 12 l0 15).bind fun v8 =>
        bb_X12_advance_223 (bb_X12_advance_162  n) l0 l0 v8 q3.2
      else
        (ab_fI q3.2 12 l0 15).bind fun v9 =>
        (ab_fI q3.2 12 l0 13).bind fun v10 =>
        (ab_rc q3.2 12 l0).bind fun _ =>
        (dd_X12_byteAt l0 v10 q3.2).bind fun q11 =>
        bb_X12_advance_223 (bb_X12_advance_162  n) l0 l0 ((((10 : Int32) * v9) + q11.1) - (48 : Int32)) q11.2
def bb_X12_advance_142  (s0 : Nat) (s1 : Int32) (m0 : ab_Mm) : Option (Unit × ab_Mm) :=
  (ab_pI m0 12 s0 14 s1).bind fun m1 =>
  bb_X12_advance_295   m1
def bb_X12_advance_88  : Nat → Nat → ab_Mm → Option (Unit × ab_Mm)
  | 0, _, _ => none
  | n + 1, l0, m0 =>
    (ab_fI m0 12 l0 13).bind fun v1 =>
    (ab_rc m0 12 l0).bind fun _ =>
    (dd_X12_byteAt l0 v1 m0).bind fun q2 =>
    (dd_X12_within q2.1.toInt64 (97 : Int64) (122 : Int64) q2.2).bind fun q3 =>
    if q3.1 = 0 then
      (ab_fI q3.2 12 l0 13).bind fun v4 =>
      (ab_fI q3.2 12 l0 12).bind fun v5 =>
      if (v4 - v5) ≤ (8 : Int32) then
        bb_X12_advance_142  l0 (1 : Int32) q3.2
      else
        bb_X12_advance_142  l0 (4 : Int32) q3.2
    else
      (ab_fI q3.2 12 l0 13).bind fun v6 =>
      (ab_pI q3.2 12 l0 13 (v6 + (1 : Int32))).bind fun m7 =>
      bb_X12_advance_88  n l0 m7
def bb_X12_advance_26 (r0 : Nat → ab_Mm → Option (Unit × ab_Mm)) (l0 : Nat) (m0 : ab_Mm) : Option (Unit × ab_Mm) :=
  (ab_fI m0 12 l0 13).bind fun v1 =>
  (ab_pI m0 12 l0 13 (v1 + (1 : Int32))).bind fun m2 =>
  r0 l0 m2
def bb_X12_advance_0  : Nat → Nat → ab_Mm → Option (Unit × ab_Mm)
  | 0, _, _ => none
  | n + 1, l0, m0 =>
    (ab_fI m0 12 l0 13).bind fun v1 =>
    (ab_rc m0 12 l0).bind fun _ =>
    (dd_X12_byteAt l0 v1 m0).bind fun q2 =>
    if q2.1 = (32 : Int32) then
      bb_X12_advance_26 (bb_X12_advance_0  n) l0 q2.2
    else
      (ab_fI q2.2 12 l0 13).bind fun v3 =>
      (ab_rc q2.2 12 l0).bind fun _ =>
      (dd_X12_byteAt l0 v3 q2.2).bind fun q4 =>
      if q4.1 = (10 : Int32) then
        bb_X12_advance_26 (bb_X12_advance_0  n) l0 q4.2
      else
        (ab_fI q4.2 12 l0 13).bind fun v5 =>
        (ab_pI q4.2 12 l0 12 v5).bind fun m6 =>
        (ab_pI m6 12 l0 15 (0 : Int32)).bind fun m7 =>
        (ab_fI m7 12 l0 13).bind fun v8 =>
        (ab_rc m7 12 l0).bind fun _ =>
        (dd_X12_byteAt l0 v8 m7).bind fun q9 =>
        if q9.1 = (-1 : Int32) then
          (ab_pI q9.2 12 l0 14 (0 : Int32)).bind fun m16 =>
          bb_X12_advance_295   m16
        else
          (dd_X12_within q9.1.toInt64 (97 : Int64) (122 : Int64) q9.2).bind fun q10 =>
          if q10.1 = 0 then
            (dd_X12_within q9.1.toInt64 (48 : Int64) (57 : Int64) q10.2).bind fun q11 =>
            if q11.1 = 0 then
              (ab_fI q11.2 12 l0 13).bind fun v12 =>
              (ab_pI q11.2 12 l0 13 (v12 + (1 : Int32))).bind fun m13 =>
              (ab_pI m13 12 l0 15 q9.1).bind fun m14 =>
              (dd_X12_isSign q9.1 m14).bind fun q15 =>
              if q15.1 = 0 then
                bb_X12_advance_292  l0 (4 : Int32) q15.2
              else
                bb_X12_advance_292  l0 (3 : Int32) q15.2
            else
              bb_X12_advance_162  ab_fu l0 q11.2
          else
            bb_X12_advance_88  ab_fu l0 q10.2
def dd_X12_advance  (l0 : Nat) (m0 : ab_Mm) : Option (Unit × ab_Mm) :=
  bb_X12_advance_0  ab_fu l0 m0
def bb_X12_isWord_75  (l2 : Int32) (m0 : ab_Mm) : Option (Int32 × ab_Mm) :=
  if ¬ (l2 &&& 1 = l2) then none else
  some (l2, m0)
def bb_X12_isWord_68 (r32 : Nat → Nat → Int32 → Int32 → ab_Mm → Option (Int32 × ab_Mm)) (l0 : Nat) (l1 : Nat) (l3 : Int32) (s0 : Int32) (m0 : ab_Mm) : Option (Int32 × ab_Mm) :=
  r32 l0 l1 s0 (l3 + (1 : Int32)) m0
def bb_X12_isWord_32  : Nat → Nat → Nat → Int32 → Int32 → ab_Mm → Option (Int32 × ab_Mm)
  | 0, _, _, _, _, _ => none
  | n + 1, l0, l1, l2, l3, m0 =>
    (ab_rs l1).bind fun _ =>
    (dd_J0_length_8abf5 l1 m0).bind fun q1 =>
    if q1.1 ≤ l3 then
      bb_X12_isWord_75  l2 q1.2
    else
      if l2 = 0 then
        bb_X12_isWord_75  l2 q1.2
      else
        (ab_fR q1.2 12 l0 9).bind fun v2 =>
        (ab_fI q1.2 12 l0 12).bind fun v3 =>
        (ab_ld q1.2 2 v2 (v3 + l3)).bind fun v4 =>
        (ab_rs l1).bind fun _ =>
        (dd_J0_charAt_5068e l1 l3 q1.2).bind fun q5 =>
        if v4 = q5.1 then
          bb_X12_isWord_68 (bb_X12_isWord_32  n) l0 l1 l3 (1 : Int32) q5.2
        else
          bb_X12_isWord_68 (bb_X12_isWord_32  n) l0 l1 l3 (0 : Int32) q5.2
def bb_X12_isWord_29  (l0 : Nat) (l1 : Nat) (s0 : Int32) (m0 : ab_Mm) : Option (Int32 × ab_Mm) :=
  bb_X12_isWord_32  ab_fu l0 l1 s0 (0 : Int32) m0
def bb_X12_isWord_28  (l0 : Nat) (l1 : Nat) (m0 : ab_Mm) : Option (Int32 × ab_Mm) :=
  bb_X12_isWord_29  l0 l1 (0 : Int32) m0
def dd_X12_isWord  (l0 : Nat) (l1 : Nat) (m0 : ab_Mm) : Option (Int32 × ab_Mm) :=
  (ab_fI m0 12 l0 14).bind fun v1 =>
  if v1 = (1 : Int32) then
    (ab_fI m0 12 l0 13).bind fun v2 =>
    (ab_fI m0 12 l0 12).bind fun v3 =>
    (ab_rs l1).bind fun _ =>
    (dd_J0_length_8abf5 l1 m0).bind fun q4 =>
    if (v2 - v3) = q4.1 then
      bb_X12_isWord_29  l0 l1 (1 : Int32) q4.2
    else
      bb_X12_isWord_28  l0 l1 q4.2
  else
    bb_X12_isWord_28  l0 l1 m0
def bb_X12_isSignHere_21  (s0 : Int32) (m0 : ab_Mm) : Option (Int32 × ab_Mm) :=
  if ¬ (s0 &&& 1 = s0) then none else
  some (s0, m0)
def bb_X12_isSignHere_20   (m0 : ab_Mm) : Option (Int32 × ab_Mm) :=
  bb_X12_isSignHere_21  (0 : Int32) m0
def dd_X12_isSignHere  (l0 : Nat) (l1 : Int32) (m0 : ab_Mm) : Option (Int32 × ab_Mm) :=
  (ab_fI m0 12 l0 14).bind fun v1 =>
  if v1 = (3 : Int32) then
    (ab_fI m0 12 l0 15).bind fun v2 =>
    if v2 = l1 then
      bb_X12_isSignHere_21  (1 : Int32) m0
    else
      bb_X12_isSignHere_20   m0
  else
    bb_X12_isSignHere_20   m0
def bb_X12_fails_20   (m0 : ab_Mm) : Option (Int32 × ab_Mm) :=
  some ((0 : Int32), m0)
def dd_X12_fails  (l0 : Nat) (l1 : Int32) (m0 : ab_Mm) : Option (Int32 × ab_Mm) :=
  (ab_fI m0 12 l0 16).bind fun v1 =>
  if v1 = 0 then
    (ab_pI m0 12 l0 16 l1).bind fun m2 =>
    (ab_fI m2 12 l0 12).bind fun v3 =>
    (ab_pI m2 12 l0 17 v3).bind fun m4 =>
    bb_X12_fails_20   m4
  else
    bb_X12_fails_20   m0
def dd_X12_takes  (l0 : Nat) (l1 : Int32) (l2 : Int32) (m0 : ab_Mm) : Option (Int32 × ab_Mm) :=
  (ab_fI m0 12 l0 14).bind fun v1 =>
  if v1 = (2 : Int32) then
    (ab_fI m0 12 l0 15).bind fun v2 =>
    (dd_X12_within v2.toInt64 l1.toInt64 l2.toInt64 m0).bind fun q3 =>
    if q3.1 = 0 then
      (ab_rc q3.2 12 l0).bind fun _ =>
      (dd_X12_fails l0 (3 : Int32) q3.2).bind fun q7 =>
      if ¬ (q7.1 &&& 1 = q7.1) then none else
      some (q7.1, q7.2)
    else
      (ab_fI q3.2 12 l0 15).bind fun v4 =>
      (ab_pI q3.2 12 l0 18 v4).bind fun m5 =>
      (ab_rc m5 12 l0).bind fun _ =>
      (dd_X12_advance l0 m5).bind fun q6 =>
      some ((1 : Int32), q6.2)
  else
    (ab_rc m0 12 l0).bind fun _ =>
    (dd_X12_fails l0 (1 : Int32) m0).bind fun q8 =>
    if ¬ (q8.1 &&& 1 = q8.1) then none else
    some (q8.1, q8.2)
def dd_X12_starts  (l0 : Nat) (l1 : Int32) (l2 : Int32) (m0 : ab_Mm) : Option (Int32 × ab_Mm) :=
  if l2 = 0 then
    (ab_rc m0 12 l0).bind fun _ =>
    (dd_X12_fails l0 l1 m0).bind fun q2 =>
    if ¬ (q2.1 &&& 1 = q2.1) then none else
    some (q2.1, q2.2)
  else
    (ab_rc m0 12 l0).bind fun _ =>
    (dd_X12_advance l0 m0).bind fun q1 =>
    some ((1 : Int32), q1.2)
def bb_X12_once_18  (l0 : Nat) (l1 : Int32) (s0 : Nat) (s1 : Int32) (s2 : Int32) (m0 : ab_Mm) : Option (Int32 × ab_Mm) :=
  (ab_rc m0 12 s0).bind fun _ =>
  (dd_X12_starts s0 s1 s2 m0).bind fun q1 =>
  if q1.1 = 0 then
    some ((0 : Int32), q1.2)
  else
    (ab_fI q1.2 12 l0 19).bind fun v2 =>
    (ab_pI q1.2 12 l0 19 (v2 ||| ((1 : Int32) <<< (l1 &&& 31)))).bind fun m3 =>
    some ((1 : Int32), m3)
def dd_X12_once  (l0 : Nat) (l1 : Int32) (m0 : ab_Mm) : Option (Int32 × ab_Mm) :=
  (ab_fI m0 12 l0 19).bind fun v1 =>
  (dd_X12_has v1 l1 m0).bind fun q2 =>
  if q2.1 = 0 then
    bb_X12_once_18  l0 l1 l0 (2 : Int32) (1 : Int32) q2.2
  else
    bb_X12_once_18  l0 l1 l0 (2 : Int32) (0 : Int32) q2.2
def dd_X12_sets  (l0 : Nat) (l1 : Int32) (l2 : Int32) (l3 : Int32) (m0 : ab_Mm) : Option (Int32 × ab_Mm) :=
  (ab_rc m0 12 l0).bind fun _ =>
  (dd_X12_takes l0 l2 l3 m0).bind fun q1 =>
  if q1.1 = 0 then
    some ((0 : Int32), q1.2)
  else
    (ab_fR q1.2 12 l0 2).bind fun v2 =>
    (ab_fI q1.2 12 l0 18).bind fun v3 =>
    (ab_st q1.2 1 v2 ((7 : Int32) + l1) v3).bind fun m4 =>
    some ((1 : Int32), m4)
def dd_X12_closes  (l0 : Nat) (l1 : Int32) (m0 : ab_Mm) : Option (Int32 × ab_Mm) :=
  (ab_rc m0 12 l0).bind fun _ =>
  (dd_X12_isSignHere l0 l1 m0).bind fun q1 =>
  if q1.1 = 0 then
    (ab_rc q1.2 12 l0).bind fun _ =>
    (dd_X12_fails l0 (1 : Int32) q1.2).bind fun q3 =>
    if ¬ (q3.1 &&& 1 = q3.1) then none else
    some (q3.1, q3.2)
  else
    (ab_rc q1.2 12 l0).bind fun _ =>
    (dd_X12_advance l0 q1.2).bind fun q2 =>
    some ((1 : Int32), q2.2)
def dd_X12_lays  (l0 : Nat) (l1 : Nat) (l2 : Int32) (l3 : Int32) (l4 : Int32) (m0 : ab_Mm) : Option (Int32 × ab_Mm) :=
  (ab_rc m0 12 l0).bind fun _ =>
  (dd_X12_takes l0 l3 l4 m0).bind fun q1 =>
  if q1.1 = 0 then
    some ((0 : Int32), q1.2)
  else
    (ab_len q1.2 1 l1).bind fun v2 =>
    if (2 : Int32) = 0 then none else
    (ab_fI q1.2 12 l0 18).bind fun v3 =>
    (ab_st q1.2 1 l1 ((v2 / (2 : Int32)) + l2) v3).bind fun m4 =>
    some ((1 : Int32), m4)
def bb_X12_reserveLine_126  (s0 : Int32) (m0 : ab_Mm) : Option (Int32 × ab_Mm) :=
  if ¬ (s0 &&& 1 = s0) then none else
  some (s0, m0)
def bb_X12_reserveLine_125   (m0 : ab_Mm) : Option (Int32 × ab_Mm) :=
  bb_X12_reserveLine_126  (0 : Int32) m0
def dd_X12_reserveLine  (l0 : Nat) (l1 : Int32) (m0 : ab_Mm) : Option (Int32 × ab_Mm) :=
  (ab_fR m0 12 l0 6).bind fun v1 =>
  (ab_fR m0 12 l0 2).bind fun v2 =>
  (ab_ld m0 1 v2 (9 : Int32)).bind fun v3 =>
  (ab_rc m0 12 l0).bind fun _ =>
  (dd_X12_lays l0 v1 l1 (0 : Int32) (v3 - (1 : Int32)) m0).bind fun q4 =>
  if q4.1 = 0 then
    bb_X12_reserveLine_125   q4.2
  else
    (ab_fR q4.2 12 l0 6).bind fun v5 =>
    (ab_fR q4.2 12 l0 2).bind fun v6 =>
    (ab_ld q4.2 1 v6 (8 : Int32)).bind fun v7 =>
    (ab_rc q4.2 12 l0).bind fun _ =>
    (dd_X12_lays l0 v5 (l1 + (1 : Int32)) (0 : Int32) (v7 - (1 : Int32)) q4.2).bind fun q8 =>
    if q8.1 = 0 then
      bb_X12_reserveLine_125   q8.2
    else
      (ab_fR q8.2 12 l0 6).bind fun v9 =>
      (ab_rc q8.2 12 l0).bind fun _ =>
      (dd_X12_lays l0 v9 (l1 + (2 : Int32)) (1 : Int32) (9 : Int32) q8.2).bind fun q10 =>
      if q10.1 = 0 then
        bb_X12_reserveLine_125   q10.2
      else
        (ab_fR q10.2 12 l0 6).bind fun v11 =>
        (ab_rc q10.2 12 l0).bind fun _ =>
        (dd_X12_lays l0 v11 (l1 + (3 : Int32)) (0 : Int32) (9998 : Int32) q10.2).bind fun q12 =>
        if q12.1 = 0 then
          bb_X12_reserveLine_125   q12.2
        else
          (ab_fR q12.2 12 l0 6).bind fun v13 =>
          (ab_fI q12.2 12 l0 18).bind fun v14 =>
          (ab_rc q12.2 12 l0).bind fun _ =>
          (dd_X12_lays l0 v13 (l1 + (4 : Int32)) (v14 + (1 : Int32)) (9999 : Int32) q12.2).bind fun q15 =>
          if q15.1 = 0 then
            bb_X12_reserveLine_125   q15.2
          else
            (ab_fR q15.2 12 l0 6).bind fun v16 =>
            (ab_rc q15.2 12 l0).bind fun _ =>
            (dd_X12_lays l0 v16 (l1 + (5 : Int32)) (0 : Int32) (100 : Int32) q15.2).bind fun q17 =>
            if q17.1 = 0 then
              bb_X12_reserveLine_125   q17.2
            else
              bb_X12_reserveLine_126  (1 : Int32) q17.2
def bb_X12_oneMore_20  (s0 : Nat) (s1 : Int32) (s2 : Int32) (m0 : ab_Mm) : Option (Int32 × ab_Mm) :=
  (ab_rc m0 12 s0).bind fun _ =>
  (dd_X12_starts s0 s1 s2 m0).bind fun q1 =>
  if ¬ (q1.1 &&& 1 = q1.1) then none else
  some (q1.1, q1.2)
def dd_X12_oneMore  (l0 : Nat) (l1 : Int32) (l2 : Int32) (m0 : ab_Mm) : Option (Int32 × ab_Mm) :=
  (ab_fR m0 12 l0 2).bind fun v1 =>
  (ab_ld m0 1 v1 ((7 : Int32) + l1)).bind fun v2 =>
  if l2 ≤ v2 then
    bb_X12_oneMore_20  l0 (4 : Int32) (0 : Int32) m0
  else
    bb_X12_oneMore_20  l0 (4 : Int32) (1 : Int32) m0
def dd_X12_counts  (l0 : Nat) (l1 : Int32) (m0 : ab_Mm) : Option (Int32 × ab_Mm) :=
  (ab_fR m0 12 l0 2).bind fun v1 =>
  (ab_ld m0 1 v1 ((7 : Int32) + l1)).bind fun v2 =>
  (ab_st m0 1 v1 ((7 : Int32) + l1) (v2 + (1 : Int32))).bind fun m3 =>
  some ((1 : Int32), m3)
def bb_X12_nameHere_53  (s0 : Int32) (m0 : ab_Mm) : Option (Int32 × ab_Mm) :=
  some (s0, m0)
def dd_X12_nameHere  (l0 : Nat) (m0 : ab_Mm) : Option (Int32 × ab_Mm) :=
  (ab_rc m0 12 l0).bind fun _ =>
  (dd_X12_isWord l0 1040 m0).bind fun q1 =>
  if q1.1 = 0 then
    (ab_rc q1.2 12 l0).bind fun _ =>
    (dd_X12_isWord l0 1042 q1.2).bind fun q2 =>
    if q2.1 = 0 then
      (ab_rc q2.2 12 l0).bind fun _ =>
      (dd_X12_isWord l0 1044 q2.2).bind fun q3 =>
      if q3.1 = 0 then
        (ab_rc q3.2 12 l0).bind fun _ =>
        (dd_X12_isWord l0 1046 q3.2).bind fun q4 =>
        if q4.1 = 0 then
          bb_X12_nameHere_53  (0 : Int32) q4.2
        else
          bb_X12_nameHere_53  (4 : Int32) q4.2
      else
        bb_X12_nameHere_53  (3 : Int32) q3.2
    else
      bb_X12_nameHere_53  (2 : Int32) q2.2
  else
    bb_X12_nameHere_53  (1 : Int32) q1.2
def bb_X12_factor_98 (c_X12_factor : Nat → ab_Mm → Option (Int32 × ab_Mm)) (c_X12_sum : Nat → ab_Mm → Option (Int32 × ab_Mm)) (c_X12_term : Nat → ab_Mm → Option (Int32 × ab_Mm)) (l0 : Nat) (s0 : Int32) (m0 : ab_Mm) : Option (Int32 × ab_Mm) :=
  if s0 = 0 then
    (ab_rc m0 12 l0).bind fun _ =>
    (dd_X12_fails l0 (1 : Int32) m0).bind fun q3 =>
    if ¬ (q3.1 &&& 1 = q3.1) then none else
    some (q3.1, q3.2)
  else
    (ab_rc m0 12 l0).bind fun _ =>
    (dd_X12_advance l0 m0).bind fun q1 =>
    (ab_rc q1.2 12 l0).bind fun _ =>
    (dd_X12_emit l0 s0 q1.2).bind fun q2 =>
    if ¬ (q2.1 &&& 1 = q2.1) then none else
    some (q2.1, q2.2)
def bb_X12_factor_63 (c_X12_factor : Nat → ab_Mm → Option (Int32 × ab_Mm)) (c_X12_sum : Nat → ab_Mm → Option (Int32 × ab_Mm)) (c_X12_term : Nat → ab_Mm → Option (Int32 × ab_Mm)) (l0 : Nat) (s0 : Int32) (m0 : ab_Mm) : Option (Int32 × ab_Mm) :=
  (ab_fI m0 12 l0 20).bind fun v1 =>
  (ab_pI m0 12 l0 20 (v1 - (1 : Int32))).bind fun m2 =>
  if ¬ (s0 &&& 1 = s0) then none else
  some (s0, m2)
def bb_X12_factor_62 (c_X12_factor : Nat → ab_Mm → Option (Int32 × ab_Mm)) (c_X12_sum : Nat → ab_Mm → Option (Int32 × ab_Mm)) (c_X12_term : Nat → ab_Mm → Option (Int32 × ab_Mm)) (l0 : Nat) (m0 : ab_Mm) : Option (Int32 × ab_Mm) :=
  bb_X12_factor_63 c_X12_factor c_X12_sum c_X12_term l0 (0 : Int32) m0
def bb_X12_factor_24 (c_X12_factor : Nat → ab_Mm → Option (Int32 × ab_Mm)) (c_X12_sum : Nat → ab_Mm → Option (Int32 × ab_Mm)) (c_X12_term : Nat → ab_Mm → Option (Int32 × ab_Mm)) (l0 : Nat) (s0 : Nat) (s1 : Int32) (s2 : Int32) (m0 : ab_Mm) : Option (Int32 × ab_Mm) :=
  (ab_rc m0 12 s0).bind fun _ =>
  (dd_X12_starts s0 s1 s2 m0).bind fun q1 =>
  if q1.1 = 0 then
    some ((0 : Int32), q1.2)
  else
    (ab_fI q1.2 12 l0 20).bind fun v2 =>
    (ab_pI q1.2 12 l0 20 (v2 + (1 : Int32))).bind fun m3 =>
    (ab_rc m3 12 l0).bind fun _ =>
    (c_X12_sum l0 m3).bind fun q4 =>
    if q4.1 = 0 then
      bb_X12_factor_62 c_X12_factor c_X12_sum c_X12_term l0 q4.2
    else
      (ab_rc q4.2 12 l0).bind fun _ =>
      (dd_X12_closes l0 (41 : Int32) q4.2).bind fun q5 =>
      if q5.1 = 0 then
        bb_X12_factor_62 c_X12_factor c_X12_sum c_X12_term l0 q5.2
      else
        bb_X12_factor_63 c_X12_factor c_X12_sum c_X12_term l0 (1 : Int32) q5.2
def st_X12_factor (c_X12_factor : Nat → ab_Mm → Option (Int32 × ab_Mm)) (c_X12_sum : Nat → ab_Mm → Option (Int32 × ab_Mm)) (c_X12_term : Nat → ab_Mm → Option (Int32 × ab_Mm)) (l0 : Nat) (m0 : ab_Mm) : Option (Int32 × ab_Mm) :=
  (ab_rc m0 12 l0).bind fun _ =>
  (dd_X12_isSignHere l0 (40 : Int32) m0).bind fun q1 =>
  if q1.1 = 0 then
    (ab_fI q1.2 12 l0 14).bind fun v2 =>
    if v2 = (2 : Int32) then
      (ab_fI q1.2 12 l0 15).bind fun v4 =>
      bb_X12_factor_98 c_X12_factor c_X12_sum c_X12_term l0 ((100 : Int32) + v4) q1.2
    else
      (ab_rc q1.2 12 l0).bind fun _ =>
      (dd_X12_nameHere l0 q1.2).bind fun q3 =>
      bb_X12_factor_98 c_X12_factor c_X12_sum c_X12_term l0 q3.1 q3.2
  else
    (ab_fI q1.2 12 l0 20).bind fun v5 =>
    if (5 : Int32) ≤ v5 then
      bb_X12_factor_24 c_X12_factor c_X12_sum c_X12_term l0 l0 (4 : Int32) (0 : Int32) q1.2
    else
      bb_X12_factor_24 c_X12_factor c_X12_sum c_X12_term l0 l0 (4 : Int32) (1 : Int32) q1.2
def bb_X12_sum_42 (c_X12_factor : Nat → ab_Mm → Option (Int32 × ab_Mm)) (c_X12_sum : Nat → ab_Mm → Option (Int32 × ab_Mm)) (c_X12_term : Nat → ab_Mm → Option (Int32 × ab_Mm)) (r9 : Nat → ab_Mm → Option (Int32 × ab_Mm)) (l0 : Nat) (s0 : Int32) (m0 : ab_Mm) : Option (Int32 × ab_Mm) :=
  (ab_rc m0 12 l0).bind fun _ =>
  (dd_X12_advance l0 m0).bind fun q1 =>
  (ab_rc q1.2 12 l0).bind fun _ =>
  (c_X12_term l0 q1.2).bind fun q2 =>
  if q2.1 = 0 then
    some ((0 : Int32), q2.2)
  else
    (ab_rc q2.2 12 l0).bind fun _ =>
    (dd_X12_emit l0 s0 q2.2).bind fun q3 =>
    r9 l0 q3.2
def bb_X12_sum_27 (c_X12_factor : Nat → ab_Mm → Option (Int32 × ab_Mm)) (c_X12_sum : Nat → ab_Mm → Option (Int32 × ab_Mm)) (c_X12_term : Nat → ab_Mm → Option (Int32 × ab_Mm)) (r9 : Nat → ab_Mm → Option (Int32 × ab_Mm)) (l0 : Nat) (m0 : ab_Mm) : Option (Int32 × ab_Mm) :=
  (ab_fI m0 12 l0 15).bind fun v1 =>
  if v1 = (43 : Int32) then
    bb_X12_sum_42 c_X12_factor c_X12_sum c_X12_term r9 l0 (-1 : Int32) m0
  else
    bb_X12_sum_42 c_X12_factor c_X12_sum c_X12_term r9 l0 (-2 : Int32) m0
def bb_X12_sum_9 (c_X12_factor : Nat → ab_Mm → Option (Int32 × ab_Mm)) (c_X12_sum : Nat → ab_Mm → Option (Int32 × ab_Mm)) (c_X12_term : Nat → ab_Mm → Option (Int32 × ab_Mm)) : Nat → Nat → ab_Mm → Option (Int32 × ab_Mm)
  | 0, _, _ => none
  | n + 1, l0, m0 =>
    (ab_rc m0 12 l0).bind fun _ =>
    (dd_X12_isSignHere l0 (43 : Int32) m0).bind fun q1 =>
    if q1.1 = 0 then
      (ab_rc q1.2 12 l0).bind fun _ =>
      (dd_X12_isSignHere l0 (45 : Int32) q1.2).bind fun q2 =>
      if q2.1 = 0 then
        some ((1 : Int32), q2.2)
      else
        bb_X12_sum_27 c_X12_factor c_X12_sum c_X12_term (bb_X12_sum_9 c_X12_factor c_X12_sum c_X12_term n) l0 q2.2
    else
      bb_X12_sum_27 c_X12_factor c_X12_sum c_X12_term (bb_X12_sum_9 c_X12_factor c_X12_sum c_X12_term n) l0 q1.2
def st_X12_sum (c_X12_factor : Nat → ab_Mm → Option (Int32 × ab_Mm)) (c_X12_sum : Nat → ab_Mm → Option (Int32 × ab_Mm)) (c_X12_term : Nat → ab_Mm → Option (Int32 × ab_Mm)) (l0 : Nat) (m0 : ab_Mm) : Option (Int32 × ab_Mm) :=
  (ab_rc m0 12 l0).bind fun _ =>
  (c_X12_term l0 m0).bind fun q1 =>
  if q1.1 = 0 then
    some ((0 : Int32), q1.2)
  else
    bb_X12_sum_9 c_X12_factor c_X12_sum c_X12_term ab_fu l0 q1.2
def bb_X12_term_43 (c_X12_factor : Nat → ab_Mm → Option (Int32 × ab_Mm)) (c_X12_sum : Nat → ab_Mm → Option (Int32 × ab_Mm)) (c_X12_term : Nat → ab_Mm → Option (Int32 × ab_Mm)) (r9 : Nat → ab_Mm → Option (Int32 × ab_Mm)) (l0 : Nat) (s0 : Int32) (m0 : ab_Mm) : Option (Int32 × ab_Mm) :=
  (ab_rc m0 12 l0).bind fun _ =>
  (dd_X12_advance l0 m0).bind fun q1 =>
  (ab_rc q1.2 12 l0).bind fun _ =>
  (c_X12_factor l0 q1.2).bind fun q2 =>
  if q2.1 = 0 then
    some ((0 : Int32), q2.2)
  else
    (ab_rc q2.2 12 l0).bind fun _ =>
    (dd_X12_emit l0 s0 q2.2).bind fun q3 =>
    r9 l0 q3.2
def bb_X12_term_27 (c_X12_factor : Nat → ab_Mm → Option (Int32 × ab_Mm)) (c_X12_sum : Nat → ab_Mm → Option (Int32 × ab_Mm)) (c_X12_term : Nat → ab_Mm → Option (Int32 × ab_Mm)) (r9 : Nat → ab_Mm → Option (Int32 × ab_Mm)) (l0 : Nat) (m0 : ab_Mm) : Option (Int32 × ab_Mm) :=
  (ab_fI m0 12 l0 15).bind fun v1 =>
  if v1 = (42 : Int32) then
    bb_X12_term_43 c_X12_factor c_X12_sum c_X12_term r9 l0 (-3 : Int32) m0
  else
    bb_X12_term_43 c_X12_factor c_X12_sum c_X12_term r9 l0 (-4 : Int32) m0
def bb_X12_term_9 (c_X12_factor : Nat → ab_Mm → Option (Int32 × ab_Mm)) (c_X12_sum : Nat → ab_Mm → Option (Int32 × ab_Mm)) (c_X12_term : Nat → ab_Mm → Option (Int32 × ab_Mm)) : Nat → Nat → ab_Mm → Option (Int32 × ab_Mm)
  | 0, _, _ => none
  | n + 1, l0, m0 =>
    (ab_rc m0 12 l0).bind fun _ =>
    (dd_X12_isSignHere l0 (42 : Int32) m0).bind fun q1 =>
    if q1.1 = 0 then
      (ab_rc q1.2 12 l0).bind fun _ =>
      (dd_X12_isSignHere l0 (47 : Int32) q1.2).bind fun q2 =>
      if q2.1 = 0 then
        some ((1 : Int32), q2.2)
      else
        bb_X12_term_27 c_X12_factor c_X12_sum c_X12_term (bb_X12_term_9 c_X12_factor c_X12_sum c_X12_term n) l0 q2.2
    else
      bb_X12_term_27 c_X12_factor c_X12_sum c_X12_term (bb_X12_term_9 c_X12_factor c_X12_sum c_X12_term n) l0 q1.2
def st_X12_term (c_X12_factor : Nat → ab_Mm → Option (Int32 × ab_Mm)) (c_X12_sum : Nat → ab_Mm → Option (Int32 × ab_Mm)) (c_X12_term : Nat → ab_Mm → Option (Int32 × ab_Mm)) (l0 : Nat) (m0 : ab_Mm) : Option (Int32 × ab_Mm) :=
  (ab_rc m0 12 l0).bind fun _ =>
  (c_X12_factor l0 m0).bind fun q1 =>
  if q1.1 = 0 then
    some ((0 : Int32), q1.2)
  else
    bb_X12_term_9 c_X12_factor c_X12_sum c_X12_term ab_fu l0 q1.2
def dg_X12_factor : Nat → (Nat → ab_Mm → Option (Int32 × ab_Mm)) × (Nat → ab_Mm → Option (Int32 × ab_Mm)) × (Nat → ab_Mm → Option (Int32 × ab_Mm))
  | 0 => (fun _ _ => none, fun _ _ => none, fun _ _ => none)
  | n + 1 => (st_X12_factor ((dg_X12_factor n).1) ((dg_X12_factor n).2.1) ((dg_X12_factor n).2.2), st_X12_sum ((dg_X12_factor n).1) ((dg_X12_factor n).2.1) ((dg_X12_factor n).2.2), st_X12_term ((dg_X12_factor n).1) ((dg_X12_factor n).2.1) ((dg_X12_factor n).2.2))
def dd_X12_factor (n : Nat) : Nat → ab_Mm → Option (Int32 × ab_Mm) := (dg_X12_factor n).1
def dd_X12_sum (n : Nat) : Nat → ab_Mm → Option (Int32 × ab_Mm) := (dg_X12_factor n).2.1
def dd_X12_term (n : Nat) : Nat → ab_Mm → Option (Int32 × ab_Mm) := (dg_X12_factor n).2.2
def bb_X12_statement_426  (s0 : Int32) (m0 : ab_Mm) : Option (Int32 × ab_Mm) :=
  if ¬ (s0 &&& 1 = s0) then none else
  some (s0, m0)
def bb_X12_statement_425   (m0 : ab_Mm) : Option (Int32 × ab_Mm) :=
  bb_X12_statement_426  (0 : Int32) m0
def bb_X12_statement_378  (s0 : Int32) (m0 : ab_Mm) : Option (Int32 × ab_Mm) :=
  if ¬ (s0 &&& 1 = s0) then none else
  some (s0, m0)
def bb_X12_statement_377   (m0 : ab_Mm) : Option (Int32 × ab_Mm) :=
  bb_X12_statement_378  (0 : Int32) m0
def bb_X12_statement_342  (s0 : Int32) (m0 : ab_Mm) : Option (Int32 × ab_Mm) :=
  if ¬ (s0 &&& 1 = s0) then none else
  some (s0, m0)
def bb_X12_statement_341   (m0 : ab_Mm) : Option (Int32 × ab_Mm) :=
  bb_X12_statement_342  (0 : Int32) m0
def bb_X12_statement_308  (s0 : Int32) (m0 : ab_Mm) : Option (Int32 × ab_Mm) :=
  if ¬ (s0 &&& 1 = s0) then none else
  some (s0, m0)
def bb_X12_statement_307   (m0 : ab_Mm) : Option (Int32 × ab_Mm) :=
  bb_X12_statement_308  (0 : Int32) m0
def bb_X12_statement_274  (s0 : Int32) (m0 : ab_Mm) : Option (Int32 × ab_Mm) :=
  if ¬ (s0 &&& 1 = s0) then none else
  some (s0, m0)
def bb_X12_statement_273   (m0 : ab_Mm) : Option (Int32 × ab_Mm) :=
  bb_X12_statement_274  (0 : Int32) m0
def bb_X12_statement_224  (s0 : Int32) (m0 : ab_Mm) : Option (Int32 × ab_Mm) :=
  if ¬ (s0 &&& 1 = s0) then none else
  some (s0, m0)
def bb_X12_statement_223   (m0 : ab_Mm) : Option (Int32 × ab_Mm) :=
  bb_X12_statement_224  (0 : Int32) m0
def bb_X12_statement_169  (s0 : Int32) (m0 : ab_Mm) : Option (Int32 × ab_Mm) :=
  if ¬ (s0 &&& 1 = s0) then none else
  some (s0, m0)
def bb_X12_statement_168   (m0 : ab_Mm) : Option (Int32 × ab_Mm) :=
  bb_X12_statement_169  (0 : Int32) m0
def bb_X12_statement_75  (s0 : Int32) (m0 : ab_Mm) : Option (Int32 × ab_Mm) :=
  if ¬ (s0 &&& 1 = s0) then none else
  some (s0, m0)
def bb_X12_statement_74   (m0 : ab_Mm) : Option (Int32 × ab_Mm) :=
  bb_X12_statement_75  (0 : Int32) m0
def dd_X12_statement  (l0 : Nat) (m0 : ab_Mm) : Option (Int32 × ab_Mm) :=
  (ab_rc m0 12 l0).bind fun _ =>
  (dd_X12_isWord l0 1024 m0).bind fun q1 =>
  if q1.1 = 0 then
    (ab_rc q1.2 12 l0).bind fun _ =>
    (dd_X12_isWord l0 1026 q1.2).bind fun q2 =>
    if q2.1 = 0 then
      (ab_rc q2.2 12 l0).bind fun _ =>
      (dd_X12_isWord l0 1028 q2.2).bind fun q3 =>
      if q3.1 = 0 then
        (ab_rc q3.2 12 l0).bind fun _ =>
        (dd_X12_isWord l0 1030 q3.2).bind fun q4 =>
        if q4.1 = 0 then
          (ab_rc q4.2 12 l0).bind fun _ =>
          (dd_X12_isWord l0 1032 q4.2).bind fun q5 =>
          if q5.1 = 0 then
            (ab_rc q5.2 12 l0).bind fun _ =>
            (dd_X12_isWord l0 1034 q5.2).bind fun q6 =>
            if q6.1 = 0 then
              (ab_rc q6.2 12 l0).bind fun _ =>
              (dd_X12_isWord l0 1036 q6.2).bind fun q7 =>
              if q7.1 = 0 then
                (ab_rc q7.2 12 l0).bind fun _ =>
                (dd_X12_isWord l0 1038 q7.2).bind fun q8 =>
                if q8.1 = 0 then
                  (ab_rc q8.2 12 l0).bind fun _ =>
                  (dd_X12_fails l0 (1 : Int32) q8.2).bind fun q14 =>
                  if ¬ (q14.1 &&& 1 = q14.1) then none else
                  some (q14.1, q14.2)
                else
                  (ab_fR q8.2 12 l0 7).bind fun v9 =>
                  (ab_st q8.2 1 v9 (1 : Int32) (0 : Int32)).bind fun m10 =>
                  (ab_pI m10 12 l0 20 (0 : Int32)).bind fun m11 =>
                  (ab_rc m11 12 l0).bind fun _ =>
                  (dd_X12_once l0 (3 : Int32) m11).bind fun q12 =>
                  if q12.1 = 0 then
                    bb_X12_statement_425   q12.2
                  else
                    (ab_rc q12.2 12 l0).bind fun _ =>
                    (dd_X12_sum 30 l0 q12.2).bind fun q13 =>
                    if q13.1 = 0 then
                      bb_X12_statement_425   q13.2
                    else
                      bb_X12_statement_426  (1 : Int32) q13.2
              else
                (ab_rc q7.2 12 l0).bind fun _ =>
                (dd_X12_once l0 (2 : Int32) q7.2).bind fun q15 =>
                if q15.1 = 0 then
                  bb_X12_statement_377   q15.2
                else
                  (ab_rc q15.2 12 l0).bind fun _ =>
                  (dd_X12_sets l0 (6 : Int32) (0 : Int32) (400 : Int32) q15.2).bind fun q16 =>
                  if q16.1 = 0 then
                    bb_X12_statement_377   q16.2
                  else
                    bb_X12_statement_378  (1 : Int32) q16.2
            else
              (ab_rc q6.2 12 l0).bind fun _ =>
              (dd_X12_once l0 (1 : Int32) q6.2).bind fun q17 =>
              if q17.1 = 0 then
                bb_X12_statement_341   q17.2
              else
                (ab_rc q17.2 12 l0).bind fun _ =>
                (dd_X12_sets l0 (5 : Int32) (0 : Int32) (48 : Int32) q17.2).bind fun q18 =>
                if q18.1 = 0 then
                  bb_X12_statement_341   q18.2
                else
                  bb_X12_statement_342  (1 : Int32) q18.2
          else
            (ab_rc q5.2 12 l0).bind fun _ =>
            (dd_X12_once l0 (0 : Int32) q5.2).bind fun q19 =>
            if q19.1 = 0 then
              bb_X12_statement_307   q19.2
            else
              (ab_rc q19.2 12 l0).bind fun _ =>
              (dd_X12_sets l0 (4 : Int32) (1 : Int32) (100 : Int32) q19.2).bind fun q20 =>
              if q20.1 = 0 then
                bb_X12_statement_307   q20.2
              else
                bb_X12_statement_308  (1 : Int32) q20.2
        else
          (ab_rc q4.2 12 l0).bind fun _ =>
          (dd_X12_oneMore l0 (3 : Int32) (8 : Int32) q4.2).bind fun q21 =>
          if q21.1 = 0 then
            bb_X12_statement_273   q21.2
          else
            (ab_fR q21.2 12 l0 2).bind fun v22 =>
            (ab_ld q21.2 1 v22 (10 : Int32)).bind fun v23 =>
            (ab_rc q21.2 12 l0).bind fun _ =>
            (dd_X12_reserveLine l0 ((6 : Int32) * v23) q21.2).bind fun q24 =>
            if q24.1 = 0 then
              bb_X12_statement_273   q24.2
            else
              (ab_rc q24.2 12 l0).bind fun _ =>
              (dd_X12_counts l0 (3 : Int32) q24.2).bind fun q25 =>
              if q25.1 = 0 then
                bb_X12_statement_273   q25.2
              else
                bb_X12_statement_274  (1 : Int32) q25.2
      else
        (ab_rc q3.2 12 l0).bind fun _ =>
        (dd_X12_oneMore l0 (2 : Int32) (6 : Int32) q3.2).bind fun q26 =>
        if q26.1 = 0 then
          bb_X12_statement_223   q26.2
        else
          (ab_fR q26.2 12 l0 5).bind fun v27 =>
          (ab_fR q26.2 12 l0 2).bind fun v28 =>
          (ab_ld q26.2 1 v28 (9 : Int32)).bind fun v29 =>
          (ab_rc q26.2 12 l0).bind fun _ =>
          (dd_X12_lays l0 v27 v29 (0 : Int32) (9999 : Int32) q26.2).bind fun q30 =>
          if q30.1 = 0 then
            bb_X12_statement_223   q30.2
          else
            (ab_rc q30.2 12 l0).bind fun _ =>
            (dd_X12_counts l0 (2 : Int32) q30.2).bind fun q31 =>
            if q31.1 = 0 then
              bb_X12_statement_223   q31.2
            else
              bb_X12_statement_224  (1 : Int32) q31.2
    else
      (ab_fR q2.2 12 l0 2).bind fun v32 =>
      (ab_ld q2.2 1 v32 (8 : Int32)).bind fun v33 =>
      (ab_rc q2.2 12 l0).bind fun _ =>
      (dd_X12_oneMore l0 (1 : Int32) (6 : Int32) q2.2).bind fun q34 =>
      if q34.1 = 0 then
        bb_X12_statement_168   q34.2
      else
        (ab_fR q34.2 12 l0 4).bind fun v35 =>
        (ab_rc q34.2 12 l0).bind fun _ =>
        (dd_X12_lays l0 v35 ((3 : Int32) * v33) (1 : Int32) (64 : Int32) q34.2).bind fun q36 =>
        if q36.1 = 0 then
          bb_X12_statement_168   q36.2
        else
          (ab_fR q36.2 12 l0 4).bind fun v37 =>
          (ab_rc q36.2 12 l0).bind fun _ =>
          (dd_X12_lays l0 v37 (((3 : Int32) * v33) + (1 : Int32)) (1 : Int32) (256 : Int32) q36.2).bind fun q38 =>
          if q38.1 = 0 then
            bb_X12_statement_168   q38.2
          else
            (ab_fR q38.2 12 l0 4).bind fun v39 =>
            (ab_rc q38.2 12 l0).bind fun _ =>
            (dd_X12_lays l0 v39 (((3 : Int32) * v33) + (2 : Int32)) (1 : Int32) (9999 : Int32) q38.2).bind fun q40 =>
            if q40.1 = 0 then
              bb_X12_statement_168   q40.2
            else
              (ab_rc q40.2 12 l0).bind fun _ =>
              (dd_X12_counts l0 (1 : Int32) q40.2).bind fun q41 =>
              if q41.1 = 0 then
                bb_X12_statement_168   q41.2
              else
                bb_X12_statement_169  (1 : Int32) q41.2
  else
    (ab_fR q1.2 12 l0 2).bind fun v42 =>
    (ab_ld q1.2 1 v42 (7 : Int32)).bind fun v43 =>
    (ab_rc q1.2 12 l0).bind fun _ =>
    (dd_X12_oneMore l0 (0 : Int32) (8 : Int32) q1.2).bind fun q44 =>
    if q44.1 = 0 then
      bb_X12_statement_74   q44.2
    else
      (ab_fR q44.2 12 l0 3).bind fun v45 =>
      (ab_rc q44.2 12 l0).bind fun _ =>
      (dd_X12_lays l0 v45 ((2 : Int32) * v43) (1 : Int32) (64 : Int32) q44.2).bind fun q46 =>
      if q46.1 = 0 then
        bb_X12_statement_74   q46.2
      else
        (ab_fR q46.2 12 l0 3).bind fun v47 =>
        (ab_rc q46.2 12 l0).bind fun _ =>
        (dd_X12_lays l0 v47 (((2 : Int32) * v43) + (1 : Int32)) (1 : Int32) (256 : Int32) q46.2).bind fun q48 =>
        if q48.1 = 0 then
          bb_X12_statement_74   q48.2
        else
          (ab_rc q48.2 12 l0).bind fun _ =>
          (dd_X12_counts l0 (0 : Int32) q48.2).bind fun q49 =>
          if q49.1 = 0 then
            bb_X12_statement_74   q49.2
          else
            bb_X12_statement_75  (1 : Int32) q49.2
def bb_X12_joined_51  (s0 : Int32) (m0 : ab_Mm) : Option (Int32 × ab_Mm) :=
  some (s0, m0)
def dd_X12_joined  (l0 : Int32) (l1 : Int32) (l2 : Int32) (m0 : ab_Mm) : Option (Int32 × ab_Mm) :=
  if l0 = (-3 : Int32) then
    some ((l1 * l2), m0)
  else if l0 = (-2 : Int32) then
    some ((l1 - l2), m0)
  else if l0 = (-1 : Int32) then
    some ((l1 + l2), m0)
  else 
    if l2 = 0 then
      bb_X12_joined_51  (0 : Int32) m0
    else
      if l2 = 0 then none else
      bb_X12_joined_51  (l1 / l2) m0
def bb_X12_costOf_154  (s0 : Int32) (m0 : ab_Mm) : Option (Int32 × ab_Mm) :=
  some (s0, m0)
def bb_X12_costOf_129 (r4 : Nat → Int32 → Int32 → Int32 → ab_Mm → Option (Int32 × ab_Mm)) (l0 : Nat) (l1 : Int32) (l2 : Int32) (l3 : Int32) (m0 : ab_Mm) : Option (Int32 × ab_Mm) :=
  r4 l0 l1 l2 (l3 + (1 : Int32)) m0
def bb_X12_costOf_92 (r4 : Nat → Int32 → Int32 → Int32 → ab_Mm → Option (Int32 × ab_Mm)) (l0 : Nat) (l1 : Int32) (l2 : Int32) (l3 : Int32) (s0 : Nat) (s1 : Int32) (s2 : Int32) (m0 : ab_Mm) : Option (Int32 × ab_Mm) :=
  (ab_st m0 1 s0 s1 s2).bind fun m1 =>
  bb_X12_costOf_129 r4 l0 l1 (l2 + (1 : Int32)) l3 m1
def bb_X12_costOf_4  : Nat → Nat → Int32 → Int32 → Int32 → ab_Mm → Option (Int32 × ab_Mm)
  | 0, _, _, _, _, _ => none
  | n + 1, l0, l1, l2, l3, m0 =>
    (ab_fR m0 12 l0 7).bind fun v1 =>
    (ab_ld m0 1 v1 (0 : Int32)).bind fun v2 =>
    if v2 ≤ l3 then
      (ab_fR m0 12 l0 21).bind fun v3 =>
      (ab_ld m0 1 v3 (0 : Int32)).bind fun v4 =>
      if 0 ≤ v4 then
        (ab_fR m0 12 l0 21).bind fun v5 =>
        (ab_ld m0 1 v5 (0 : Int32)).bind fun v6 =>
        bb_X12_costOf_154  v6 m0
      else
        bb_X12_costOf_154  (0 : Int32) m0
    else
      (ab_fR m0 12 l0 8).bind fun v7 =>
      (ab_ld m0 1 v7 l3).bind fun v8 =>
      if v8 ≤ 0 then
        (ab_fR m0 12 l0 21).bind fun v9 =>
        (ab_fR m0 12 l0 21).bind fun v10 =>
        (ab_ld m0 1 v10 ((l2 + (-1 : Int32)) - (1 : Int32))).bind fun v11 =>
        (ab_fR m0 12 l0 21).bind fun v12 =>
        (ab_ld m0 1 v12 (l2 + (-1 : Int32))).bind fun v13 =>
        (dd_X12_joined v8 v11 v13 m0).bind fun q14 =>
        (ab_st q14.2 1 v9 ((l2 + (-1 : Int32)) - (1 : Int32)) q14.1).bind fun m15 =>
        bb_X12_costOf_129 (bb_X12_costOf_4  n) l0 l1 (l2 + (-1 : Int32)) l3 m15
      else
        (ab_fR m0 12 l0 21).bind fun v16 =>
        if v8 < (100 : Int32) then
          if v8 = (4 : Int32) then
            (ab_fR m0 12 l0 1).bind fun v20 =>
            (ab_ldJ m0 v20 (0 : Int32)).bind fun v21 =>
            (ab_fR m0 12 l0 1).bind fun v22 =>
            (dd_X12_of l1 (5 : Int32) m0).bind fun q23 =>
            (ab_ldJ q23.2 v22 q23.1).bind fun v24 =>
            bb_X12_costOf_92 (bb_X12_costOf_4  n) l0 l1 l2 l3 v16 l2 ((v21 - v24).toInt32) q23.2
          else
            (ab_fR m0 12 l0 4).bind fun v17 =>
            (ab_rc m0 12 l0).bind fun _ =>
            (dd_X12_its l0 l1 (1 : Int32) m0).bind fun q18 =>
            (ab_ld q18.2 1 v17 ((((3 : Int32) * q18.1) + v8) - (1 : Int32))).bind fun v19 =>
            bb_X12_costOf_92 (bb_X12_costOf_4  n) l0 l1 l2 l3 v16 l2 v19 q18.2
        else
          bb_X12_costOf_92 (bb_X12_costOf_4  n) l0 l1 l2 l3 v16 l2 (v8 - (100 : Int32)) m0
def dd_X12_costOf  (l0 : Nat) (l1 : Int32) (m0 : ab_Mm) : Option (Int32 × ab_Mm) :=
  bb_X12_costOf_4  ab_fu l0 l1 (0 : Int32) (0 : Int32) m0
def bb_X12_parse_110  (l0 : Nat) (l2 : Int32) (m0 : ab_Mm) : Option (Int32 × ab_Mm) :=
  if l2 = 0 then
    (ab_fI m0 12 l0 16).bind fun v3 =>
    some (v3, m0)
  else
    (ab_rc m0 12 l0).bind fun _ =>
    (dd_X12_liftsAll l0 m0).bind fun q1 =>
    (ab_rc q1.2 12 l0).bind fun _ =>
    (dd_X12_begins l0 q1.2).bind fun q2 =>
    some ((0 : Int32), q2.2)
def bb_X12_parse_106 (r74 : Nat → Int32 → ab_Mm → Option (Int32 × ab_Mm)) (l0 : Nat) (s0 : Int32) (m0 : ab_Mm) : Option (Int32 × ab_Mm) :=
  r74 l0 s0 m0
def bb_X12_parse_105 (r74 : Nat → Int32 → ab_Mm → Option (Int32 × ab_Mm)) (l0 : Nat) (m0 : ab_Mm) : Option (Int32 × ab_Mm) :=
  bb_X12_parse_106 r74 l0 (0 : Int32) m0
def bb_X12_parse_74  : Nat → Nat → Int32 → ab_Mm → Option (Int32 × ab_Mm)
  | 0, _, _, _ => none
  | n + 1, l0, l2, m0 =>
    if l2 = 0 then
      bb_X12_parse_110  l0 l2 m0
    else
      (ab_fI m0 12 l0 14).bind fun v1 =>
      if v1 = 0 then
        bb_X12_parse_110  l0 l2 m0
      else
        (ab_rc m0 12 l0).bind fun _ =>
        (dd_X12_statement l0 m0).bind fun q2 =>
        if q2.1 = 0 then
          bb_X12_parse_105 (bb_X12_parse_74  n) l0 q2.2
        else
          (ab_rc q2.2 12 l0).bind fun _ =>
          (dd_X12_closes l0 (59 : Int32) q2.2).bind fun q3 =>
          if q3.1 = 0 then
            bb_X12_parse_105 (bb_X12_parse_74  n) l0 q3.2
          else
            bb_X12_parse_106 (bb_X12_parse_74  n) l0 (1 : Int32) q3.2
def bb_X12_parse_25  (l0 : Nat) (l1 : Int32) (s0 : Nat) (s1 : Int32) (m0 : ab_Mm) : Option (Int32 × ab_Mm) :=
  (ab_rc m0 12 s0).bind fun _ =>
  (dd_X12_throwsIf s0 s1 (1 : Int32) m0).bind fun q1 =>
  if q1.1 = 0 then
    (ab_pI q1.2 12 l0 11 l1).bind fun m2 =>
    (ab_pI m2 12 l0 10 (0 : Int32)).bind fun m3 =>
    (ab_pI m3 12 l0 13 (0 : Int32)).bind fun m4 =>
    (ab_pI m4 12 l0 16 (0 : Int32)).bind fun m5 =>
    (ab_pI m5 12 l0 17 (-1 : Int32)).bind fun m6 =>
    (ab_pI m6 12 l0 19 (0 : Int32)).bind fun m7 =>
    (ab_rc m7 12 l0).bind fun _ =>
    (dd_X12_clearDraft l0 m7).bind fun q8 =>
    (ab_rc q8.2 12 l0).bind fun _ =>
    (dd_X12_advance l0 q8.2).bind fun q9 =>
    bb_X12_parse_74  ab_fu l0 (1 : Int32) q9.2
  else
    some ((0 : Int32), q1.2)
def dd_X12_parse  (l0 : Nat) (l1 : Int32) (m0 : ab_Mm) : Option (Int32 × ab_Mm) :=
  (ab_pI m0 12 l0 0 (0 : Int32)).bind fun m1 =>
  (ab_fI m1 12 l0 10).bind fun v2 =>
  (dd_X12_within l1.toInt64 (0 : Int64) v2.toInt64 m1).bind fun q3 =>
  if q3.1 = 0 then
    bb_X12_parse_25  l0 l1 l0 (1 : Int32) q3.2
  else
    bb_X12_parse_25  l0 l1 l0 (0 : Int32) q3.2
def dd_X12_errorPosition  (l0 : Nat) (m0 : ab_Mm) : Option (Int32 × ab_Mm) :=
  (ab_pI m0 12 l0 0 (0 : Int32)).bind fun m1 =>
  (ab_fI m1 12 l0 17).bind fun v2 =>
  some (v2, m1)
def bb_X12_isOn_29  (s0 : Int32) (m0 : ab_Mm) : Option (Int32 × ab_Mm) :=
  if ¬ (s0 &&& 1 = s0) then none else
  some (s0, m0)
def bb_X12_isOn_28   (m0 : ab_Mm) : Option (Int32 × ab_Mm) :=
  bb_X12_isOn_29  (0 : Int32) m0
def dd_X12_isOn  (l0 : Nat) (l1 : Int32) (l2 : Int32) (m0 : ab_Mm) : Option (Int32 × ab_Mm) :=
  (ab_rc m0 12 l0).bind fun _ =>
  (dd_X12_runs l0 l1 m0).bind fun q1 =>
  if q1.1 = 0 then
    bb_X12_isOn_28   q1.2
  else
    (ab_fR q1.2 12 l0 1).bind fun v2 =>
    (dd_X12_of l1 (2 : Int32) q1.2).bind fun q3 =>
    (ab_ldJ q3.2 v2 q3.1).bind fun v4 =>
    if (lg_cmp v4 l2.toInt64) = 0 then
      bb_X12_isOn_29  (1 : Int32) q3.2
    else
      bb_X12_isOn_28   q3.2
def bb_X12_freeOf_52 (r14 : Nat → Int32 → Int32 → Int32 → Int32 → ab_Mm → Option (Int32 × ab_Mm)) (l0 : Nat) (l1 : Int32) (l2 : Int32) (l4 : Int32) (s0 : Int32) (s1 : Int32) (m0 : ab_Mm) : Option (Int32 × ab_Mm) :=
  r14 l0 l1 l2 (s0 - s1) (l4 + (1 : Int32)) m0
def bb_X12_freeOf_14  : Nat → Nat → Int32 → Int32 → Int32 → Int32 → ab_Mm → Option (Int32 × ab_Mm)
  | 0, _, _, _, _, _, _ => none
  | n + 1, l0, l1, l2, l3, l4, m0 =>
    if (12 : Int32) ≤ l4 then
      some (l3, m0)
    else
      (ab_rc m0 12 l0).bind fun _ =>
      (dd_X12_isOn l0 l4 l1 m0).bind fun q1 =>
      if q1.1 = 0 then
        bb_X12_freeOf_52 (bb_X12_freeOf_14  n) l0 l1 l2 l4 l3 (0 : Int32) q1.2
      else
        (ab_fR q1.2 12 l0 4).bind fun v2 =>
        (ab_rc q1.2 12 l0).bind fun _ =>
        (dd_X12_its l0 l4 (1 : Int32) q1.2).bind fun q3 =>
        (ab_ld q3.2 1 v2 (((3 : Int32) * q3.1) + l2)).bind fun v4 =>
        bb_X12_freeOf_52 (bb_X12_freeOf_14  n) l0 l1 l2 l4 l3 v4 q3.2
def dd_X12_freeOf  (l0 : Nat) (l1 : Int32) (l2 : Int32) (m0 : ab_Mm) : Option (Int32 × ab_Mm) :=
  (ab_fR m0 12 l0 3).bind fun v1 =>
  (ab_ld m0 1 v1 (((2 : Int32) * l1) + l2)).bind fun v2 =>
  bb_X12_freeOf_14  ab_fu l0 l1 l2 v2 (0 : Int32) m0
def bb_X12_fits_41  (s0 : Int32) (m0 : ab_Mm) : Option (Int32 × ab_Mm) :=
  if ¬ (s0 &&& 1 = s0) then none else
  some (s0, m0)
def bb_X12_fits_40   (m0 : ab_Mm) : Option (Int32 × ab_Mm) :=
  bb_X12_fits_41  (0 : Int32) m0
def dd_X12_fits  (l0 : Nat) (l1 : Int32) (l2 : Int32) (m0 : ab_Mm) : Option (Int32 × ab_Mm) :=
  (ab_fR m0 12 l0 4).bind fun v1 =>
  (ab_ld m0 1 v1 ((3 : Int32) * l1)).bind fun v2 =>
  (ab_rc m0 12 l0).bind fun _ =>
  (dd_X12_freeOf l0 l2 (0 : Int32) m0).bind fun q3 =>
  if q3.1 < v2 then
    bb_X12_fits_40   q3.2
  else
    (ab_fR q3.2 12 l0 4).bind fun v4 =>
    (ab_ld q3.2 1 v4 (((3 : Int32) * l1) + (1 : Int32))).bind fun v5 =>
    (ab_rc q3.2 12 l0).bind fun _ =>
    (dd_X12_freeOf l0 l2 (1 : Int32) q3.2).bind fun q6 =>
    if q6.1 < v5 then
      bb_X12_fits_40   q6.2
    else
      bb_X12_fits_41  (1 : Int32) q6.2
def bb_X12_bestFor_59 (r9 : Nat → Int32 → Int32 → Int32 → Int32 → ab_Mm → Option (Int32 × ab_Mm)) (l0 : Nat) (l1 : Int32) (l2 : Int32) (l3 : Int32) (l4 : Int32) (m0 : ab_Mm) : Option (Int32 × ab_Mm) :=
  r9 l0 l1 l2 l3 (l4 + (1 : Int32)) m0
def bb_X12_bestFor_9  : Nat → Nat → Int32 → Int32 → Int32 → Int32 → ab_Mm → Option (Int32 × ab_Mm)
  | 0, _, _, _, _, _, _ => none
  | n + 1, l0, l1, l2, l3, l4, m0 =>
    (ab_fR m0 12 l0 2).bind fun v1 =>
    (ab_ld m0 1 v1 (0 : Int32)).bind fun v2 =>
    if v2 ≤ l4 then
      some (l2, m0)
    else
      (ab_rc m0 12 l0).bind fun _ =>
      (dd_X12_freeOf l0 l4 (0 : Int32) m0).bind fun q3 =>
      (ab_rc q3.2 12 l0).bind fun _ =>
      (dd_X12_freeOf l0 l4 (1 : Int32) q3.2).bind fun q4 =>
      (ab_rc q4.2 12 l0).bind fun _ =>
      (dd_X12_fits l0 l1 l4 q4.2).bind fun q5 =>
      if q5.1 = 0 then
        bb_X12_bestFor_59 (bb_X12_bestFor_9  n) l0 l1 l2 l3 l4 q5.2
      else
        if l3 ≤ (q3.1 + q4.1) then
          bb_X12_bestFor_59 (bb_X12_bestFor_9  n) l0 l1 l2 l3 l4 q5.2
        else
          bb_X12_bestFor_59 (bb_X12_bestFor_9  n) l0 l1 l4 (q3.1 + q4.1) l4 q5.2
def dd_X12_bestFor  (l0 : Nat) (l1 : Int32) (m0 : ab_Mm) : Option (Int32 × ab_Mm) :=
  bb_X12_bestFor_9  ab_fu l0 l1 (-1 : Int32) (2147483647 : Int32) (0 : Int32) m0
def bb_X12_no_23  (s0 : Nat) (s1 : Int32) (m0 : ab_Mm) : Option (Int32 × ab_Mm) :=
  (ab_rc m0 12 s0).bind fun _ =>
  (dd_X12_throwsIf s0 s1 (1 : Int32) m0).bind fun q1 =>
  if ¬ (q1.1 &&& 1 = q1.1) then none else
  some (q1.1, q1.2)
def dd_X12_no  (l0 : Nat) (l1 : Int64) (l3 : Int32) (m0 : ab_Mm) : Option (Int32 × ab_Mm) :=
  (ab_pI m0 12 l0 0 (0 : Int32)).bind fun m1 =>
  (dd_X12_within l1 (0 : Int64) ((l3 - (1 : Int32)).toInt64) m1).bind fun q2 =>
  if q2.1 = 0 then
    bb_X12_no_23  l0 (1 : Int32) q2.2
  else
    bb_X12_no_23  l0 (0 : Int32) q2.2
def dd_X12_noHost  (l0 : Nat) (l1 : Int32) (m0 : ab_Mm) : Option (Int32 × ab_Mm) :=
  (ab_fR m0 12 l0 2).bind fun v1 =>
  (ab_ld m0 1 v1 (0 : Int32)).bind fun v2 =>
  (ab_rc m0 12 l0).bind fun _ =>
  (dd_X12_no l0 l1.toInt64 v2 m0).bind fun q3 =>
  if ¬ (q3.1 &&& 1 = q3.1) then none else
  some (q3.1, q3.2)
def dd_X12_noType  (l0 : Nat) (l1 : Int32) (m0 : ab_Mm) : Option (Int32 × ab_Mm) :=
  (ab_fR m0 12 l0 2).bind fun v1 =>
  (ab_ld m0 1 v1 (1 : Int32)).bind fun v2 =>
  (ab_rc m0 12 l0).bind fun _ =>
  (dd_X12_no l0 l1.toInt64 v2 m0).bind fun q3 =>
  if ¬ (q3.1 &&& 1 = q3.1) then none else
  some (q3.1, q3.2)
def dd_X12_noTenant  (l0 : Nat) (l1 : Int32) (m0 : ab_Mm) : Option (Int32 × ab_Mm) :=
  (ab_fR m0 12 l0 2).bind fun v1 =>
  (ab_ld m0 1 v1 (2 : Int32)).bind fun v2 =>
  (ab_rc m0 12 l0).bind fun _ =>
  (dd_X12_no l0 l1.toInt64 v2 m0).bind fun q3 =>
  if ¬ (q3.1 &&& 1 = q3.1) then none else
  some (q3.1, q3.2)
def bb_X12_noInstance_37  (s0 : Int32) (m0 : ab_Mm) : Option (Int32 × ab_Mm) :=
  if ¬ (s0 &&& 1 = s0) then none else
  some (s0, m0)
def bb_X12_noInstance_32   (m0 : ab_Mm) : Option (Int32 × ab_Mm) :=
  bb_X12_noInstance_37  (1 : Int32) m0
def bb_X12_noInstance_25  (s0 : Nat) (s1 : Int32) (m0 : ab_Mm) : Option (Int32 × ab_Mm) :=
  (ab_rc m0 12 s0).bind fun _ =>
  (dd_X12_throwsIf s0 s1 (1 : Int32) m0).bind fun q1 =>
  if q1.1 = 0 then
    bb_X12_noInstance_37  (0 : Int32) q1.2
  else
    bb_X12_noInstance_32   q1.2
def dd_X12_noInstance  (l0 : Nat) (l1 : Int32) (m0 : ab_Mm) : Option (Int32 × ab_Mm) :=
  (ab_rc m0 12 l0).bind fun _ =>
  (dd_X12_no l0 l1.toInt64 (12 : Int32) m0).bind fun q1 =>
  if q1.1 = 0 then
    (ab_rc q1.2 12 l0).bind fun _ =>
    (dd_X12_runs l0 l1 q1.2).bind fun q2 =>
    if q2.1 = 0 then
      bb_X12_noInstance_25  l0 (1 : Int32) q2.2
    else
      bb_X12_noInstance_25  l0 (0 : Int32) q2.2
  else
    bb_X12_noInstance_32   q1.2
def dd_X12_hostCount  (l0 : Nat) (m0 : ab_Mm) : Option (Int32 × ab_Mm) :=
  (ab_pI m0 12 l0 0 (0 : Int32)).bind fun m1 =>
  (ab_fR m1 12 l0 2).bind fun v2 =>
  (ab_ld m1 1 v2 (0 : Int32)).bind fun v3 =>
  some (v3, m1)
def dd_X12_clock  (l0 : Nat) (m0 : ab_Mm) : Option (Int32 × ab_Mm) :=
  (ab_pI m0 12 l0 0 (0 : Int32)).bind fun m1 =>
  (ab_fR m1 12 l0 1).bind fun v2 =>
  (ab_ldJ m1 v2 (0 : Int32)).bind fun v3 =>
  some (v3.toInt32, m1)
def bb_X12_free_26  (s0 : Int32) (m0 : ab_Mm) : Option (Int32 × ab_Mm) :=
  some (s0, m0)
def bb_X12_free_23  (s0 : Nat) (s1 : Int32) (s2 : Int32) (m0 : ab_Mm) : Option (Int32 × ab_Mm) :=
  (ab_rc m0 12 s0).bind fun _ =>
  (dd_X12_freeOf s0 s1 s2 m0).bind fun q1 =>
  bb_X12_free_26  q1.1 q1.2
def dd_X12_free  (l0 : Nat) (l1 : Int32) (l2 : Int32) (m0 : ab_Mm) : Option (Int32 × ab_Mm) :=
  (ab_rc m0 12 l0).bind fun _ =>
  (dd_X12_noHost l0 l1 m0).bind fun q1 =>
  if q1.1 = 0 then
    if l2 = 0 then
      bb_X12_free_23  l0 l1 (0 : Int32) q1.2
    else
      bb_X12_free_23  l0 l1 (1 : Int32) q1.2
  else
    bb_X12_free_26  (0 : Int32) q1.2
def bb_X12_onHost_27 (r4 : Nat → Int32 → Int32 → Int32 → ab_Mm → Option (Int32 × ab_Mm)) (l0 : Nat) (l1 : Int32) (l3 : Int32) (s0 : Int32) (s1 : Int32) (m0 : ab_Mm) : Option (Int32 × ab_Mm) :=
  r4 l0 l1 (s0 ||| s1) (l3 + (1 : Int32)) m0
def bb_X12_onHost_4  : Nat → Nat → Int32 → Int32 → Int32 → ab_Mm → Option (Int32 × ab_Mm)
  | 0, _, _, _, _, _ => none
  | n + 1, l0, l1, l2, l3, m0 =>
    if (12 : Int32) ≤ l3 then
      some (l2, m0)
    else
      (ab_rc m0 12 l0).bind fun _ =>
      (dd_X12_isOn l0 l3 l1 m0).bind fun q1 =>
      if q1.1 = 0 then
        bb_X12_onHost_27 (bb_X12_onHost_4  n) l0 l1 l3 l2 (0 : Int32) q1.2
      else
        bb_X12_onHost_27 (bb_X12_onHost_4  n) l0 l1 l3 l2 ((1 : Int32) <<< (l3 &&& 31)) q1.2
def dd_X12_onHost  (l0 : Nat) (l1 : Int32) (m0 : ab_Mm) : Option (Int32 × ab_Mm) :=
  bb_X12_onHost_4  ab_fu l0 l1 (0 : Int32) (0 : Int32) m0
def bb_X12_instancesOn_17  (s0 : Int32) (m0 : ab_Mm) : Option (Int32 × ab_Mm) :=
  some (s0, m0)
def dd_X12_instancesOn  (l0 : Nat) (l1 : Int32) (m0 : ab_Mm) : Option (Int32 × ab_Mm) :=
  (ab_rc m0 12 l0).bind fun _ =>
  (dd_X12_noHost l0 l1 m0).bind fun q1 =>
  if q1.1 = 0 then
    (ab_rc q1.2 12 l0).bind fun _ =>
    (dd_X12_onHost l0 l1 q1.2).bind fun q2 =>
    bb_X12_instancesOn_17  q2.1 q2.2
  else
    bb_X12_instancesOn_17  (0 : Int32) q1.2
def bb_X12_utilisation_29  (s0 : UInt64) (m0 : ab_Mm) : Option (UInt64 × ab_Mm) :=
  some (s0, m0)
def dd_X12_utilisation  (l0 : Nat) (m0 : ab_Mm) : Option (UInt64 × ab_Mm) :=
  (ab_pI m0 12 l0 0 (0 : Int32)).bind fun m1 =>
  (ab_fR m1 12 l0 2).bind fun v2 =>
  (ab_ld m1 1 v2 (0 : Int32)).bind fun v3 =>
  if v3 = 0 then
    bb_X12_utilisation_29  FP.dconst0 m1
  else
    (ab_rc m1 12 l0).bind fun _ =>
    (dd_X12_loadCpu l0 m1).bind fun q4 =>
    (ab_rc q4.2 12 l0).bind fun _ =>
    (dd_X12_allCpu l0 q4.2).bind fun q5 =>
    if ¬ ((FP.ddiv (FP.i2d q4.1) (FP.i2d q5.1)) &&& 0x7fffffffffffffff ≤ 0x7ff0000000000000) then none else
    bb_X12_utilisation_29  (FP.ddiv (FP.i2d q4.1) (FP.i2d q5.1)) q5.2
def bb_X12_spotPrice_21  (s0 : Int32) (m0 : ab_Mm) : Option (Int32 × ab_Mm) :=
  some (s0, m0)
def dd_X12_spotPrice  (l0 : Nat) (l1 : Int32) (m0 : ab_Mm) : Option (Int32 × ab_Mm) :=
  (ab_rc m0 12 l0).bind fun _ =>
  (dd_X12_noType l0 l1 m0).bind fun q1 =>
  if q1.1 = 0 then
    (ab_fR q1.2 12 l0 1).bind fun v2 =>
    (ab_ldJ q1.2 v2 ((2 : Int32) + l1)).bind fun v3 =>
    bb_X12_spotPrice_21  v3.toInt32 q1.2
  else
    bb_X12_spotPrice_21  (0 : Int32) q1.2
def bb_X12_bestHost_17  (s0 : Int32) (m0 : ab_Mm) : Option (Int32 × ab_Mm) :=
  some (s0, m0)
def dd_X12_bestHost  (l0 : Nat) (l1 : Int32) (m0 : ab_Mm) : Option (Int32 × ab_Mm) :=
  (ab_rc m0 12 l0).bind fun _ =>
  (dd_X12_noType l0 l1 m0).bind fun q1 =>
  if q1.1 = 0 then
    (ab_rc q1.2 12 l0).bind fun _ =>
    (dd_X12_bestFor l0 l1 q1.2).bind fun q2 =>
    bb_X12_bestHost_17  q2.1 q2.2
  else
    bb_X12_bestHost_17  (0 : Int32) q1.2
def bb_X12_room_75 (r14 : Nat → Int32 → Int32 → Int32 → ab_Mm → Option (Int32 × ab_Mm)) (l0 : Nat) (l1 : Int32) (l3 : Int32) (s0 : Int32) (s1 : Int32) (m0 : ab_Mm) : Option (Int32 × ab_Mm) :=
  r14 l0 l1 (s0 + s1) (l3 + (1 : Int32)) m0
def bb_X12_room_14  : Nat → Nat → Int32 → Int32 → Int32 → ab_Mm → Option (Int32 × ab_Mm)
  | 0, _, _, _, _, _ => none
  | n + 1, l0, l1, l2, l3, m0 =>
    (ab_fR m0 12 l0 2).bind fun v1 =>
    (ab_ld m0 1 v1 (0 : Int32)).bind fun v2 =>
    if v2 ≤ l3 then
      some (l2, m0)
    else
      (ab_rc m0 12 l0).bind fun _ =>
      (dd_X12_freeOf l0 l3 (0 : Int32) m0).bind fun q3 =>
      (ab_fR q3.2 12 l0 4).bind fun v4 =>
      (ab_ld q3.2 1 v4 ((3 : Int32) * l1)).bind fun v5 =>
      if v5 = 0 then none else
      (ab_rc q3.2 12 l0).bind fun _ =>
      (dd_X12_freeOf l0 l3 (1 : Int32) q3.2).bind fun q6 =>
      (ab_fR q6.2 12 l0 4).bind fun v7 =>
      (ab_ld q6.2 1 v7 (((3 : Int32) * l1) + (1 : Int32))).bind fun v8 =>
      if v8 = 0 then none else
      if (q6.1 / v8) ≤ (q3.1 / v5) then
        bb_X12_room_75 (bb_X12_room_14  n) l0 l1 l3 l2 (q6.1 / v8) q6.2
      else
        bb_X12_room_75 (bb_X12_room_14  n) l0 l1 l3 l2 (q3.1 / v5) q6.2
def dd_X12_room  (l0 : Nat) (l1 : Int32) (m0 : ab_Mm) : Option (Int32 × ab_Mm) :=
  (ab_rc m0 12 l0).bind fun _ =>
  (dd_X12_noType l0 l1 m0).bind fun q1 =>
  if q1.1 = 0 then
    bb_X12_room_14  ab_fu l0 l1 (0 : Int32) (0 : Int32) q1.2
  else
    some ((0 : Int32), q1.2)
def bb_X12_runningOnes_26 (r4 : Nat → Int32 → Int32 → ab_Mm → Option (Int32 × ab_Mm)) (l0 : Nat) (l2 : Int32) (s0 : Int32) (s1 : Int32) (m0 : ab_Mm) : Option (Int32 × ab_Mm) :=
  r4 l0 (s0 ||| s1) (l2 + (1 : Int32)) m0
def bb_X12_runningOnes_4  : Nat → Nat → Int32 → Int32 → ab_Mm → Option (Int32 × ab_Mm)
  | 0, _, _, _, _ => none
  | n + 1, l0, l1, l2, m0 =>
    if (12 : Int32) ≤ l2 then
      some (l1, m0)
    else
      (ab_rc m0 12 l0).bind fun _ =>
      (dd_X12_runs l0 l2 m0).bind fun q1 =>
      if q1.1 = 0 then
        bb_X12_runningOnes_26 (bb_X12_runningOnes_4  n) l0 l2 l1 (0 : Int32) q1.2
      else
        bb_X12_runningOnes_26 (bb_X12_runningOnes_4  n) l0 l2 l1 ((1 : Int32) <<< (l2 &&& 31)) q1.2
def dd_X12_runningOnes  (l0 : Nat) (m0 : ab_Mm) : Option (Int32 × ab_Mm) :=
  bb_X12_runningOnes_4  ab_fu l0 (0 : Int32) (0 : Int32) m0
def dd_X12_running  (l0 : Nat) (m0 : ab_Mm) : Option (Int32 × ab_Mm) :=
  (ab_pI m0 12 l0 0 (0 : Int32)).bind fun m1 =>
  (ab_rc m1 12 l0).bind fun _ =>
  (dd_X12_runningOnes l0 m1).bind fun q2 =>
  some (q2.1, q2.2)
def bb_X12_typeOf_18  (s0 : Int32) (m0 : ab_Mm) : Option (Int32 × ab_Mm) :=
  some (s0, m0)
def dd_X12_typeOf  (l0 : Nat) (l1 : Int32) (m0 : ab_Mm) : Option (Int32 × ab_Mm) :=
  (ab_rc m0 12 l0).bind fun _ =>
  (dd_X12_noInstance l0 l1 m0).bind fun q1 =>
  if q1.1 = 0 then
    (ab_rc q1.2 12 l0).bind fun _ =>
    (dd_X12_its l0 l1 (1 : Int32) q1.2).bind fun q2 =>
    bb_X12_typeOf_18  q2.1 q2.2
  else
    bb_X12_typeOf_18  (0 : Int32) q1.2
def bb_X12_tenantOf_18  (s0 : Int32) (m0 : ab_Mm) : Option (Int32 × ab_Mm) :=
  some (s0, m0)
def dd_X12_tenantOf  (l0 : Nat) (l1 : Int32) (m0 : ab_Mm) : Option (Int32 × ab_Mm) :=
  (ab_rc m0 12 l0).bind fun _ =>
  (dd_X12_noInstance l0 l1 m0).bind fun q1 =>
  if q1.1 = 0 then
    (ab_rc q1.2 12 l0).bind fun _ =>
    (dd_X12_its l0 l1 (0 : Int32) q1.2).bind fun q2 =>
    bb_X12_tenantOf_18  q2.1 q2.2
  else
    bb_X12_tenantOf_18  (0 : Int32) q1.2
def bb_X12_hostOf_18  (s0 : Int32) (m0 : ab_Mm) : Option (Int32 × ab_Mm) :=
  some (s0, m0)
def dd_X12_hostOf  (l0 : Nat) (l1 : Int32) (m0 : ab_Mm) : Option (Int32 × ab_Mm) :=
  (ab_rc m0 12 l0).bind fun _ =>
  (dd_X12_noInstance l0 l1 m0).bind fun q1 =>
  if q1.1 = 0 then
    (ab_rc q1.2 12 l0).bind fun _ =>
    (dd_X12_its l0 l1 (2 : Int32) q1.2).bind fun q2 =>
    bb_X12_hostOf_18  q2.1 q2.2
  else
    bb_X12_hostOf_18  (0 : Int32) q1.2
def bb_X12_bidOf_18  (s0 : Int32) (m0 : ab_Mm) : Option (Int32 × ab_Mm) :=
  some (s0, m0)
def dd_X12_bidOf  (l0 : Nat) (l1 : Int32) (m0 : ab_Mm) : Option (Int32 × ab_Mm) :=
  (ab_rc m0 12 l0).bind fun _ =>
  (dd_X12_noInstance l0 l1 m0).bind fun q1 =>
  if q1.1 = 0 then
    (ab_rc q1.2 12 l0).bind fun _ =>
    (dd_X12_its l0 l1 (3 : Int32) q1.2).bind fun q2 =>
    bb_X12_bidOf_18  q2.1 q2.2
  else
    bb_X12_bidOf_18  (0 : Int32) q1.2
def bb_X12_noticeOf_18  (s0 : Int32) (m0 : ab_Mm) : Option (Int32 × ab_Mm) :=
  some (s0, m0)
def dd_X12_noticeOf  (l0 : Nat) (l1 : Int32) (m0 : ab_Mm) : Option (Int32 × ab_Mm) :=
  (ab_rc m0 12 l0).bind fun _ =>
  (dd_X12_noInstance l0 l1 m0).bind fun q1 =>
  if q1.1 = 0 then
    (ab_rc q1.2 12 l0).bind fun _ =>
    (dd_X12_its l0 l1 (4 : Int32) q1.2).bind fun q2 =>
    bb_X12_noticeOf_18  q2.1 q2.2
  else
    bb_X12_noticeOf_18  (0 : Int32) q1.2
def dd_X12_waiting  (l0 : Nat) (m0 : ab_Mm) : Option (Int32 × ab_Mm) :=
  (ab_pI m0 12 l0 0 (0 : Int32)).bind fun m1 =>
  (ab_fR m1 12 l0 1).bind fun v2 =>
  (ab_ldJ m1 v2 (1 : Int32)).bind fun v3 =>
  some (v3.toInt32, m1)
def dd_X12_bidAt  (l0 : Nat) (l1 : Int32) (m0 : ab_Mm) : Option (Int32 × ab_Mm) :=
  (ab_fR m0 12 l0 1).bind fun v1 =>
  (ab_ldJ m0 v1 (((86 : Int32) + ((3 : Int32) * l1)) + (2 : Int32))).bind fun v2 =>
  some (v2.toInt32, m0)
def bb_X12_requestAt_72 (r2 : Nat → Int32 → Int32 → ab_Mm → Option (Int32 × ab_Mm)) (r19 : Nat → Int32 → Int32 → Int32 → Int32 → ab_Mm → Option (Int32 × ab_Mm)) (l0 : Nat) (l1 : Int32) (l2 : Int32) (l4 : Int32) (s0 : Int32) (s1 : Int32) (m0 : ab_Mm) : Option (Int32 × ab_Mm) :=
  r19 l0 l1 l2 (s0 + s1) (l4 + (1 : Int32)) m0
def bb_X12_requestAt_71 (r2 : Nat → Int32 → Int32 → ab_Mm → Option (Int32 × ab_Mm)) (r19 : Nat → Int32 → Int32 → Int32 → Int32 → ab_Mm → Option (Int32 × ab_Mm)) (l0 : Nat) (l1 : Int32) (l2 : Int32) (l4 : Int32) (s0 : Int32) (m0 : ab_Mm) : Option (Int32 × ab_Mm) :=
  bb_X12_requestAt_72 r2 r19 l0 l1 l2 l4 s0 (0 : Int32) m0
def bb_X12_requestAt_67 (r2 : Nat → Int32 → Int32 → ab_Mm → Option (Int32 × ab_Mm)) (r19 : Nat → Int32 → Int32 → Int32 → Int32 → ab_Mm → Option (Int32 × ab_Mm)) (l0 : Nat) (l1 : Int32) (l2 : Int32) (l4 : Int32) (s0 : Int32) (m0 : ab_Mm) : Option (Int32 × ab_Mm) :=
  bb_X12_requestAt_72 r2 r19 l0 l1 l2 l4 s0 (1 : Int32) m0
def bb_X12_requestAt_19 (r2 : Nat → Int32 → Int32 → ab_Mm → Option (Int32 × ab_Mm)) : Nat → Nat → Int32 → Int32 → Int32 → Int32 → ab_Mm → Option (Int32 × ab_Mm)
  | 0, _, _, _, _, _, _ => none
  | n + 1, l0, l1, l2, l3, l4, m0 =>
    (ab_fR m0 12 l0 1).bind fun v1 =>
    (ab_ldJ m0 v1 (1 : Int32)).bind fun v2 =>
    if 0 ≤ (lg_cmp l4.toInt64 v2) then
      if l3 = l1 then
        some (l2, m0)
      else
        r2 l0 l1 (l2 + (1 : Int32)) m0
    else
      (ab_rc m0 12 l0).bind fun _ =>
      (dd_X12_bidAt l0 l4 m0).bind fun q3 =>
      (ab_rc q3.2 12 l0).bind fun _ =>
      (dd_X12_bidAt l0 l2 q3.2).bind fun q4 =>
      if q4.1 < q3.1 then
        bb_X12_requestAt_67 r2 (bb_X12_requestAt_19 r2 n) l0 l1 l2 l4 l3 q4.2
      else
        (ab_rc q4.2 12 l0).bind fun _ =>
        (dd_X12_bidAt l0 l4 q4.2).bind fun q5 =>
        (ab_rc q5.2 12 l0).bind fun _ =>
        (dd_X12_bidAt l0 l2 q5.2).bind fun q6 =>
        if q5.1 = q6.1 then
          if l2 ≤ l4 then
            bb_X12_requestAt_71 r2 (bb_X12_requestAt_19 r2 n) l0 l1 l2 l4 l3 q6.2
          else
            bb_X12_requestAt_67 r2 (bb_X12_requestAt_19 r2 n) l0 l1 l2 l4 l3 q6.2
        else
          bb_X12_requestAt_71 r2 (bb_X12_requestAt_19 r2 n) l0 l1 l2 l4 l3 q6.2
def bb_X12_requestAt_2  : Nat → Nat → Int32 → Int32 → ab_Mm → Option (Int32 × ab_Mm)
  | 0, _, _, _, _ => none
  | n + 1, l0, l1, l2, m0 =>
    (ab_fR m0 12 l0 1).bind fun v1 =>
    (ab_ldJ m0 v1 (1 : Int32)).bind fun v2 =>
    if 0 ≤ (lg_cmp l2.toInt64 v2) then
      some ((-1 : Int32), m0)
    else
      bb_X12_requestAt_19 (bb_X12_requestAt_2  n) ab_fu l0 l1 l2 (0 : Int32) (0 : Int32) m0
def dd_X12_requestAt  (l0 : Nat) (l1 : Int32) (m0 : ab_Mm) : Option (Int32 × ab_Mm) :=
  bb_X12_requestAt_2  ab_fu l0 l1 (0 : Int32) m0
def bb_X12_waitingBid_25  (s0 : Int32) (m0 : ab_Mm) : Option (Int32 × ab_Mm) :=
  some (s0, m0)
def dd_X12_waitingBid  (l0 : Nat) (l1 : Int32) (m0 : ab_Mm) : Option (Int32 × ab_Mm) :=
  (ab_pI m0 12 l0 0 (0 : Int32)).bind fun m1 =>
  (ab_rc m1 12 l0).bind fun _ =>
  (dd_X12_requestAt l0 l1 m1).bind fun q2 =>
  if q2.1 = (-1 : Int32) then
    bb_X12_waitingBid_25  (-1 : Int32) q2.2
  else
    (ab_rc q2.2 12 l0).bind fun _ =>
    (dd_X12_bidAt l0 q2.1 q2.2).bind fun q3 =>
    bb_X12_waitingBid_25  q3.1 q3.2
def bb_X12_dropsRequest_17  : Nat → Nat → Int32 → ab_Mm → Option (Unit × ab_Mm)
  | 0, _, _, _ => none
  | n + 1, l0, l2, m0 =>
    (ab_fR m0 12 l0 1).bind fun v1 =>
    (ab_ldJ m0 v1 (1 : Int32)).bind fun v2 =>
    if 0 ≤ (lg_cmp l2.toInt64 ((86 : Int64) + ((3 : Int64) * v2))) then
      some ((), m0)
    else
      (ab_fR m0 12 l0 1).bind fun v3 =>
      (ab_fR m0 12 l0 1).bind fun v4 =>
      (ab_ldJ m0 v4 (l2 + (3 : Int32))).bind fun v5 =>
      (ab_stJ m0 v3 l2 v5).bind fun m6 =>
      bb_X12_dropsRequest_17  n l0 (l2 + (1 : Int32)) m6
def dd_X12_dropsRequest  (l0 : Nat) (l1 : Int32) (m0 : ab_Mm) : Option (Unit × ab_Mm) :=
  (ab_fR m0 12 l0 1).bind fun v1 =>
  (ab_ldJ m0 v1 (1 : Int32)).bind fun v2 =>
  (ab_stJ m0 v1 (1 : Int32) (v2 - (1 : Int64))).bind fun m3 =>
  bb_X12_dropsRequest_17  ab_fu l0 ((86 : Int32) + ((3 : Int32) * l1)) m3
def bb_X12_regulars_60 (r5 : Nat → Int32 → Int32 → Int32 → Int32 → ab_Mm → Option (Int32 × ab_Mm)) (l0 : Nat) (l1 : Int32) (l2 : Int32) (l4 : Int32) (s0 : Int32) (s1 : Int32) (m0 : ab_Mm) : Option (Int32 × ab_Mm) :=
  r5 l0 l1 l2 (s0 + s1) (l4 + (1 : Int32)) m0
def bb_X12_regulars_59 (r5 : Nat → Int32 → Int32 → Int32 → Int32 → ab_Mm → Option (Int32 × ab_Mm)) (l0 : Nat) (l1 : Int32) (l2 : Int32) (l4 : Int32) (s0 : Int32) (m0 : ab_Mm) : Option (Int32 × ab_Mm) :=
  bb_X12_regulars_60 r5 l0 l1 l2 l4 s0 (0 : Int32) m0
def bb_X12_regulars_5  : Nat → Nat → Int32 → Int32 → Int32 → Int32 → ab_Mm → Option (Int32 × ab_Mm)
  | 0, _, _, _, _, _, _ => none
  | n + 1, l0, l1, l2, l3, l4, m0 =>
    if (12 : Int32) ≤ l4 then
      some (l3, m0)
    else
      (ab_rc m0 12 l0).bind fun _ =>
      (dd_X12_runs l0 l4 m0).bind fun q1 =>
      if q1.1 = 0 then
        bb_X12_regulars_59 (bb_X12_regulars_5  n) l0 l1 l2 l4 l3 q1.2
      else
        (ab_rc q1.2 12 l0).bind fun _ =>
        (dd_X12_its l0 l4 (0 : Int32) q1.2).bind fun q2 =>
        if q2.1 = l1 then
          (ab_rc q2.2 12 l0).bind fun _ =>
          (dd_X12_its l0 l4 (1 : Int32) q2.2).bind fun q3 =>
          if q3.1 = l2 then
            (ab_rc q3.2 12 l0).bind fun _ =>
            (dd_X12_its l0 l4 (3 : Int32) q3.2).bind fun q4 =>
            if q4.1 = (-1 : Int32) then
              bb_X12_regulars_60 (bb_X12_regulars_5  n) l0 l1 l2 l4 l3 (1 : Int32) q4.2
            else
              bb_X12_regulars_59 (bb_X12_regulars_5  n) l0 l1 l2 l4 l3 q4.2
          else
            bb_X12_regulars_59 (bb_X12_regulars_5  n) l0 l1 l2 l4 l3 q3.2
        else
          bb_X12_regulars_59 (bb_X12_regulars_5  n) l0 l1 l2 l4 l3 q2.2
def dd_X12_regulars  (l0 : Nat) (l1 : Int32) (l2 : Int32) (m0 : ab_Mm) : Option (Int32 × ab_Mm) :=
  bb_X12_regulars_5  ab_fu l0 l1 l2 (0 : Int32) (0 : Int32) m0
def dd_X12_isActive  (l0 : Nat) (l1 : Int32) (m0 : ab_Mm) : Option (Int32 × ab_Mm) :=
  (ab_fR m0 12 l0 1).bind fun v1 =>
  (ab_ldJ m0 v1 (0 : Int32)).bind fun v2 =>
  (ab_fR m0 12 l0 6).bind fun v3 =>
  (ab_ld m0 1 v3 (((6 : Int32) * l1) + (3 : Int32))).bind fun v4 =>
  (ab_fR m0 12 l0 6).bind fun v5 =>
  (ab_ld m0 1 v5 (((6 : Int32) * l1) + (4 : Int32))).bind fun v6 =>
  (dd_X12_within v2 v4.toInt64 ((v6 - (1 : Int32)).toInt64) m0).bind fun q7 =>
  if ¬ (q7.1 &&& 1 = q7.1) then none else
  some (q7.1, q7.2)
def dd_X12_payment  (l0 : Nat) (l1 : Int32) (m0 : ab_Mm) : Option (Int32 × ab_Mm) :=
  (ab_fR m0 12 l0 6).bind fun v1 =>
  (ab_ld m0 1 v1 (((6 : Int32) * l1) + (2 : Int32))).bind fun v2 =>
  (ab_fR m0 12 l0 4).bind fun v3 =>
  (ab_fR m0 12 l0 6).bind fun v4 =>
  (ab_ld m0 1 v4 (((6 : Int32) * l1) + (1 : Int32))).bind fun v5 =>
  (ab_ld m0 1 v3 (((3 : Int32) * v5) + (2 : Int32))).bind fun v6 =>
  (ab_fR m0 12 l0 6).bind fun v7 =>
  (ab_ld m0 1 v7 (((6 : Int32) * l1) + (5 : Int32))).bind fun v8 =>
  if (100 : Int32) = 0 then none else
  some ((v2 * ((v6 * ((100 : Int32) - v8)) / (100 : Int32))), m0)
def bb_X12_coveredBy_100  (s0 : Int32) (m0 : ab_Mm) : Option (Int32 × ab_Mm) :=
  some (s0, m0)
def bb_X12_coveredBy_72 (r5 : Nat → Int32 → Int32 → Int32 → Int32 → ab_Mm → Option (Int32 × ab_Mm)) (l0 : Nat) (l1 : Int32) (l2 : Int32) (l4 : Int32) (s0 : Int32) (s1 : Int32) (m0 : ab_Mm) : Option (Int32 × ab_Mm) :=
  r5 l0 l1 l2 (s0 + s1) (l4 + (1 : Int32)) m0
def bb_X12_coveredBy_71 (r5 : Nat → Int32 → Int32 → Int32 → Int32 → ab_Mm → Option (Int32 × ab_Mm)) (l0 : Nat) (l1 : Int32) (l2 : Int32) (l4 : Int32) (s0 : Int32) (m0 : ab_Mm) : Option (Int32 × ab_Mm) :=
  bb_X12_coveredBy_72 r5 l0 l1 l2 l4 s0 (0 : Int32) m0
def bb_X12_coveredBy_5  : Nat → Nat → Int32 → Int32 → Int32 → Int32 → ab_Mm → Option (Int32 × ab_Mm)
  | 0, _, _, _, _, _, _ => none
  | n + 1, l0, l1, l2, l3, l4, m0 =>
    (ab_fR m0 12 l0 2).bind fun v1 =>
    (ab_ld m0 1 v1 (3 : Int32)).bind fun v2 =>
    if v2 ≤ l4 then
      (ab_rc m0 12 l0).bind fun _ =>
      (dd_X12_regulars l0 l1 l2 m0).bind fun q3 =>
      if q3.1 ≤ l3 then
        bb_X12_coveredBy_100  q3.1 q3.2
      else
        bb_X12_coveredBy_100  l3 q3.2
    else
      (ab_fR m0 12 l0 6).bind fun v4 =>
      (ab_ld m0 1 v4 ((6 : Int32) * l4)).bind fun v5 =>
      if v5 = l1 then
        (ab_fR m0 12 l0 6).bind fun v6 =>
        (ab_ld m0 1 v6 (((6 : Int32) * l4) + (1 : Int32))).bind fun v7 =>
        if v7 = l2 then
          (ab_rc m0 12 l0).bind fun _ =>
          (dd_X12_isActive l0 l4 m0).bind fun q8 =>
          if q8.1 = 0 then
            bb_X12_coveredBy_71 (bb_X12_coveredBy_5  n) l0 l1 l2 l4 l3 q8.2
          else
            (ab_fR q8.2 12 l0 6).bind fun v9 =>
            (ab_ld q8.2 1 v9 (((6 : Int32) * l4) + (2 : Int32))).bind fun v10 =>
            bb_X12_coveredBy_72 (bb_X12_coveredBy_5  n) l0 l1 l2 l4 l3 v10 q8.2
        else
          bb_X12_coveredBy_71 (bb_X12_coveredBy_5  n) l0 l1 l2 l4 l3 m0
      else
        bb_X12_coveredBy_71 (bb_X12_coveredBy_5  n) l0 l1 l2 l4 l3 m0
def dd_X12_coveredBy  (l0 : Nat) (l1 : Int32) (l2 : Int32) (m0 : ab_Mm) : Option (Int32 × ab_Mm) :=
  bb_X12_coveredBy_5  ab_fu l0 l1 l2 (0 : Int32) (0 : Int32) m0
def bb_X12_billOf_153 (r100 : Nat → Int32 → Int32 → Int32 → ab_Mm → Option (Int32 × ab_Mm)) (l0 : Nat) (l1 : Int32) (l3 : Int32) (s0 : Int32) (s1 : Int32) (m0 : ab_Mm) : Option (Int32 × ab_Mm) :=
  r100 l0 l1 (s0 + s1) (l3 + (1 : Int32)) m0
def bb_X12_billOf_152 (r100 : Nat → Int32 → Int32 → Int32 → ab_Mm → Option (Int32 × ab_Mm)) (l0 : Nat) (l1 : Int32) (l3 : Int32) (s0 : Int32) (m0 : ab_Mm) : Option (Int32 × ab_Mm) :=
  bb_X12_billOf_153 r100 l0 l1 l3 s0 (0 : Int32) m0
def bb_X12_billOf_100  : Nat → Nat → Int32 → Int32 → Int32 → ab_Mm → Option (Int32 × ab_Mm)
  | 0, _, _, _, _, _ => none
  | n + 1, l0, l1, l2, l3, m0 =>
    if (12 : Int32) ≤ l3 then
      some (l2, m0)
    else
      (ab_rc m0 12 l0).bind fun _ =>
      (dd_X12_runs l0 l3 m0).bind fun q1 =>
      if q1.1 = 0 then
        bb_X12_billOf_152 (bb_X12_billOf_100  n) l0 l1 l3 l2 q1.2
      else
        (ab_rc q1.2 12 l0).bind fun _ =>
        (dd_X12_its l0 l3 (0 : Int32) q1.2).bind fun q2 =>
        if q2.1 = l1 then
          (ab_rc q2.2 12 l0).bind fun _ =>
          (dd_X12_its l0 l3 (3 : Int32) q2.2).bind fun q3 =>
          if q3.1 = (-1 : Int32) then
            bb_X12_billOf_152 (bb_X12_billOf_100  n) l0 l1 l3 l2 q3.2
          else
            (ab_fR q3.2 12 l0 1).bind fun v4 =>
            (ab_rc q3.2 12 l0).bind fun _ =>
            (dd_X12_its l0 l3 (1 : Int32) q3.2).bind fun q5 =>
            (ab_ldJ q5.2 v4 ((2 : Int32) + q5.1)).bind fun v6 =>
            bb_X12_billOf_153 (bb_X12_billOf_100  n) l0 l1 l3 l2 v6.toInt32 q5.2
        else
          bb_X12_billOf_152 (bb_X12_billOf_100  n) l0 l1 l3 l2 q2.2
def bb_X12_billOf_55  : Nat → Nat → Int32 → Int32 → Int32 → ab_Mm → Option (Int32 × ab_Mm)
  | 0, _, _, _, _, _ => none
  | n + 1, l0, l1, l2, l3, m0 =>
    (ab_fR m0 12 l0 2).bind fun v1 =>
    (ab_ld m0 1 v1 (1 : Int32)).bind fun v2 =>
    if v2 ≤ l3 then
      bb_X12_billOf_100  ab_fu l0 l1 l2 (0 : Int32) m0
    else
      (ab_rc m0 12 l0).bind fun _ =>
      (dd_X12_regulars l0 l1 l3 m0).bind fun q3 =>
      (ab_rc q3.2 12 l0).bind fun _ =>
      (dd_X12_coveredBy l0 l1 l3 q3.2).bind fun q4 =>
      (ab_fR q4.2 12 l0 4).bind fun v5 =>
      (ab_ld q4.2 1 v5 (((3 : Int32) * l3) + (2 : Int32))).bind fun v6 =>
      bb_X12_billOf_55  n l0 l1 (l2 + ((q3.1 - q4.1) * v6)) (l3 + (1 : Int32)) q4.2
def bb_X12_billOf_45 (r4 : Nat → Int32 → Int32 → Int32 → ab_Mm → Option (Int32 × ab_Mm)) (l0 : Nat) (l1 : Int32) (l3 : Int32) (s0 : Int32) (s1 : Int32) (m0 : ab_Mm) : Option (Int32 × ab_Mm) :=
  r4 l0 l1 (s0 + s1) (l3 + (1 : Int32)) m0
def bb_X12_billOf_44 (r4 : Nat → Int32 → Int32 → Int32 → ab_Mm → Option (Int32 × ab_Mm)) (l0 : Nat) (l1 : Int32) (l3 : Int32) (s0 : Int32) (m0 : ab_Mm) : Option (Int32 × ab_Mm) :=
  bb_X12_billOf_45 r4 l0 l1 l3 s0 (0 : Int32) m0
def bb_X12_billOf_4  : Nat → Nat → Int32 → Int32 → Int32 → ab_Mm → Option (Int32 × ab_Mm)
  | 0, _, _, _, _, _ => none
  | n + 1, l0, l1, l2, l3, m0 =>
    (ab_fR m0 12 l0 2).bind fun v1 =>
    (ab_ld m0 1 v1 (3 : Int32)).bind fun v2 =>
    if v2 ≤ l3 then
      bb_X12_billOf_55  ab_fu l0 l1 l2 (0 : Int32) m0
    else
      (ab_fR m0 12 l0 6).bind fun v3 =>
      (ab_ld m0 1 v3 ((6 : Int32) * l3)).bind fun v4 =>
      if v4 = l1 then
        (ab_rc m0 12 l0).bind fun _ =>
        (dd_X12_isActive l0 l3 m0).bind fun q5 =>
        if q5.1 = 0 then
          bb_X12_billOf_44 (bb_X12_billOf_4  n) l0 l1 l3 l2 q5.2
        else
          (ab_rc q5.2 12 l0).bind fun _ =>
          (dd_X12_payment l0 l3 q5.2).bind fun q6 =>
          bb_X12_billOf_45 (bb_X12_billOf_4  n) l0 l1 l3 l2 q6.1 q6.2
      else
        bb_X12_billOf_44 (bb_X12_billOf_4  n) l0 l1 l3 l2 m0
def dd_X12_billOf  (l0 : Nat) (l1 : Int32) (m0 : ab_Mm) : Option (Int32 × ab_Mm) :=
  bb_X12_billOf_4  ab_fu l0 l1 (0 : Int32) (0 : Int32) m0
def bb_X12_spent_21  (s0 : Int64) (m0 : ab_Mm) : Option (Int64 × ab_Mm) :=
  some (s0, m0)
def dd_X12_spent  (l0 : Nat) (l1 : Int32) (m0 : ab_Mm) : Option (Int64 × ab_Mm) :=
  (ab_rc m0 12 l0).bind fun _ =>
  (dd_X12_noTenant l0 l1 m0).bind fun q1 =>
  if q1.1 = 0 then
    (ab_fR q1.2 12 l0 1).bind fun v2 =>
    (ab_ldJ q1.2 v2 ((8 : Int32) + l1)).bind fun v3 =>
    bb_X12_spent_21  v3 q1.2
  else
    bb_X12_spent_21  (0 : Int64) q1.2
def bb_X12_hourlyBill_17  (s0 : Int32) (m0 : ab_Mm) : Option (Int32 × ab_Mm) :=
  some (s0, m0)
def dd_X12_hourlyBill  (l0 : Nat) (l1 : Int32) (m0 : ab_Mm) : Option (Int32 × ab_Mm) :=
  (ab_rc m0 12 l0).bind fun _ =>
  (dd_X12_noTenant l0 l1 m0).bind fun q1 =>
  if q1.1 = 0 then
    (ab_rc q1.2 12 l0).bind fun _ =>
    (dd_X12_billOf l0 l1 q1.2).bind fun q2 =>
    bb_X12_hourlyBill_17  q2.1 q2.2
  else
    bb_X12_hourlyBill_17  (0 : Int32) q1.2
def bb_X12_covered_26  (s0 : Int32) (m0 : ab_Mm) : Option (Int32 × ab_Mm) :=
  some (s0, m0)
def bb_X12_covered_16   (m0 : ab_Mm) : Option (Int32 × ab_Mm) :=
  bb_X12_covered_26  (0 : Int32) m0
def dd_X12_covered  (l0 : Nat) (l1 : Int32) (l2 : Int32) (m0 : ab_Mm) : Option (Int32 × ab_Mm) :=
  (ab_rc m0 12 l0).bind fun _ =>
  (dd_X12_noTenant l0 l1 m0).bind fun q1 =>
  if q1.1 = 0 then
    (ab_rc q1.2 12 l0).bind fun _ =>
    (dd_X12_noType l0 l2 q1.2).bind fun q2 =>
    if q2.1 = 0 then
      (ab_rc q2.2 12 l0).bind fun _ =>
      (dd_X12_coveredBy l0 l1 l2 q2.2).bind fun q3 =>
      bb_X12_covered_26  q3.1 q3.2
    else
      bb_X12_covered_16   q2.2
  else
    bb_X12_covered_16   q1.2
def bb_X12_isOver_29  (s0 : Int32) (m0 : ab_Mm) : Option (Int32 × ab_Mm) :=
  if ¬ (s0 &&& 1 = s0) then none else
  some (s0, m0)
def dd_X12_isOver  (l0 : Nat) (l1 : Int32) (m0 : ab_Mm) : Option (Int32 × ab_Mm) :=
  (ab_fR m0 12 l0 1).bind fun v1 =>
  (ab_ldJ m0 v1 ((8 : Int32) + l1)).bind fun v2 =>
  (ab_fR m0 12 l0 5).bind fun v3 =>
  (ab_ld m0 1 v3 l1).bind fun v4 =>
  if (lg_cmp v2 ((100 : Int64) * v4.toInt64)) ≤ 0 then
    bb_X12_isOver_29  (0 : Int32) m0
  else
    bb_X12_isOver_29  (1 : Int32) m0
def bb_X12_isOverBudget_21  (s0 : Int32) (m0 : ab_Mm) : Option (Int32 × ab_Mm) :=
  if ¬ (s0 &&& 1 = s0) then none else
  some (s0, m0)
def bb_X12_isOverBudget_20   (m0 : ab_Mm) : Option (Int32 × ab_Mm) :=
  bb_X12_isOverBudget_21  (0 : Int32) m0
def dd_X12_isOverBudget  (l0 : Nat) (l1 : Int32) (m0 : ab_Mm) : Option (Int32 × ab_Mm) :=
  (ab_rc m0 12 l0).bind fun _ =>
  (dd_X12_noTenant l0 l1 m0).bind fun q1 =>
  if q1.1 = 0 then
    (ab_rc q1.2 12 l0).bind fun _ =>
    (dd_X12_isOver l0 l1 q1.2).bind fun q2 =>
    if q2.1 = 0 then
      bb_X12_isOverBudget_20   q2.2
    else
      bb_X12_isOverBudget_21  (1 : Int32) q2.2
  else
    bb_X12_isOverBudget_20   q1.2
def bb_X12_pays_108  (s0 : Int32) (m0 : ab_Mm) : Option (Int32 × ab_Mm) :=
  if ¬ (s0 &&& 1 = s0) then none else
  some (s0, m0)
def bb_X12_pays_107   (m0 : ab_Mm) : Option (Int32 × ab_Mm) :=
  bb_X12_pays_108  (0 : Int32) m0
def bb_X12_pays_65  (l0 : Nat) (l1 : Int32) (l2 : Int32) (s0 : Int32) (m0 : ab_Mm) : Option (Int32 × ab_Mm) :=
  (ab_rc m0 12 l0).bind fun _ =>
  (dd_X12_isActive l0 l1 m0).bind fun q1 =>
  if q1.1 = 0 then
    bb_X12_pays_107   q1.2
  else
    (ab_rc q1.2 12 l0).bind fun _ =>
    (dd_X12_payment l0 l1 q1.2).bind fun q2 =>
    (ab_fR q2.2 12 l0 4).bind fun v3 =>
    (ab_fR q2.2 12 l0 6).bind fun v4 =>
    (ab_ld q2.2 1 v4 (l2 + (1 : Int32))).bind fun v5 =>
    (ab_ld q2.2 1 v3 (((3 : Int32) * v5) + (2 : Int32))).bind fun v6 =>
    if (s0 * v6) ≤ q2.1 then
      bb_X12_pays_107   q2.2
    else
      bb_X12_pays_108  (1 : Int32) q2.2
def dd_X12_pays  (l0 : Nat) (l1 : Int32) (m0 : ab_Mm) : Option (Int32 × ab_Mm) :=
  (ab_fR m0 12 l0 2).bind fun v1 =>
  (ab_ld m0 1 v1 (3 : Int32)).bind fun v2 =>
  (ab_rc m0 12 l0).bind fun _ =>
  (dd_X12_no l0 l1.toInt64 v2 m0).bind fun q3 =>
  if q3.1 = 0 then
    (ab_fR q3.2 12 l0 6).bind fun v4 =>
    (ab_ld q3.2 1 v4 ((6 : Int32) * l1)).bind fun v5 =>
    (ab_fR q3.2 12 l0 6).bind fun v6 =>
    (ab_ld q3.2 1 v6 (((6 : Int32) * l1) + (1 : Int32))).bind fun v7 =>
    (ab_rc q3.2 12 l0).bind fun _ =>
    (dd_X12_regulars l0 v5 v7 q3.2).bind fun q8 =>
    (ab_fR q8.2 12 l0 6).bind fun v9 =>
    (ab_ld q8.2 1 v9 (((6 : Int32) * l1) + (2 : Int32))).bind fun v10 =>
    if v10 ≤ q8.1 then
      (ab_fR q8.2 12 l0 6).bind fun v11 =>
      (ab_ld q8.2 1 v11 (((6 : Int32) * l1) + (2 : Int32))).bind fun v12 =>
      bb_X12_pays_65  l0 l1 ((6 : Int32) * l1) v12 q8.2
    else
      bb_X12_pays_65  l0 l1 ((6 : Int32) * l1) q8.1 q8.2
  else
    some ((0 : Int32), q3.2)
def bb_X12_addsHost_164 (r29 : Nat → Int32 → Int32 → Int32 → ab_Mm → Option (Unit × ab_Mm)) (l0 : Nat) (l1 : Int32) (l2 : Int32) (l3 : Int32) (m0 : ab_Mm) : Option (Unit × ab_Mm) :=
  r29 l0 l1 l2 (l3 + (1 : Int32)) m0
def bb_X12_addsHost_159 (r29 : Nat → Int32 → Int32 → Int32 → ab_Mm → Option (Unit × ab_Mm)) (r90 : Nat → Int32 → Int32 → Int32 → Int32 → Int32 → ab_Mm → Option (Unit × ab_Mm)) (l0 : Nat) (l1 : Int32) (l2 : Int32) (l3 : Int32) (l4 : Int32) (s0 : Int32) (m0 : ab_Mm) : Option (Unit × ab_Mm) :=
  r90 l0 l1 l2 l3 l4 s0 m0
def bb_X12_addsHost_142 (r29 : Nat → Int32 → Int32 → Int32 → ab_Mm → Option (Unit × ab_Mm)) (r90 : Nat → Int32 → Int32 → Int32 → Int32 → Int32 → ab_Mm → Option (Unit × ab_Mm)) (l0 : Nat) (l1 : Int32) (l2 : Int32) (l3 : Int32) (l4 : Int32) (l5 : Int32) (s0 : Nat) (s1 : Int32) (s2 : Int32) (m0 : ab_Mm) : Option (Unit × ab_Mm) :=
  (ab_st m0 1 s0 s1 s2).bind fun m1 =>
  if l5 = 0 then
    bb_X12_addsHost_159 r29 r90 l0 l1 l2 l3 l4 (-1 : Int32) m1
  else
    bb_X12_addsHost_159 r29 r90 l0 l1 l2 l3 l4 ((l5 - (1 : Int32)) &&& l4) m1
def bb_X12_addsHost_90 (r29 : Nat → Int32 → Int32 → Int32 → ab_Mm → Option (Unit × ab_Mm)) : Nat → Nat → Int32 → Int32 → Int32 → Int32 → Int32 → ab_Mm → Option (Unit × ab_Mm)
  | 0, _, _, _, _, _, _, _ => none
  | n + 1, l0, l1, l2, l3, l4, l5, m0 =>
    if l5 < 0 then
      bb_X12_addsHost_164 r29 l0 l1 l2 l3 m0
    else
      (ab_fR m0 12 l0 23).bind fun v1 =>
      (ab_ld m0 1 v1 l5).bind fun v2 =>
      (ab_fR m0 12 l0 22).bind fun v3 =>
      (ab_fR m0 12 l0 22).bind fun v4 =>
      (ab_ld m0 1 v4 (l5 ||| l3)).bind fun v5 =>
      if v5 ≤ (v2 + (1 : Int32)) then
        (ab_fR m0 12 l0 22).bind fun v6 =>
        (ab_ld m0 1 v6 (l5 ||| l3)).bind fun v7 =>
        bb_X12_addsHost_142 r29 (bb_X12_addsHost_90 r29 n) l0 l1 l2 l3 l4 l5 v3 (l5 ||| l3) v7 m0
      else
        bb_X12_addsHost_142 r29 (bb_X12_addsHost_90 r29 n) l0 l1 l2 l3 l4 l5 v3 (l5 ||| l3) (v2 + (1 : Int32)) m0
def bb_X12_addsHost_29  : Nat → Nat → Int32 → Int32 → Int32 → ab_Mm → Option (Unit × ab_Mm)
  | 0, _, _, _, _, _ => none
  | n + 1, l0, l1, l2, l3, m0 =>
    if ((1 : Int32) <<< (l2 &&& 31)) ≤ l3 then
      some ((), m0)
    else
      (ab_fR m0 12 l0 24).bind fun v1 =>
      (ab_ld m0 1 v1 l3).bind fun v2 =>
      (ab_fR m0 12 l0 3).bind fun v3 =>
      (ab_ld m0 1 v3 ((2 : Int32) * l1)).bind fun v4 =>
      if v4 < v2 then
        bb_X12_addsHost_164 (bb_X12_addsHost_29  n) l0 l1 l2 l3 m0
      else
        (ab_fR m0 12 l0 25).bind fun v5 =>
        (ab_ld m0 1 v5 l3).bind fun v6 =>
        (ab_fR m0 12 l0 3).bind fun v7 =>
        (ab_ld m0 1 v7 (((2 : Int32) * l1) + (1 : Int32))).bind fun v8 =>
        if v6 ≤ v8 then
          bb_X12_addsHost_90 (bb_X12_addsHost_29  n) ab_fu l0 l1 l2 l3 ((((1 : Int32) <<< (l2 &&& 31)) - (1 : Int32)) &&& (l3 ^^^ (-1 : Int32))) ((((1 : Int32) <<< (l2 &&& 31)) - (1 : Int32)) &&& (l3 ^^^ (-1 : Int32))) m0
        else
          bb_X12_addsHost_164 (bb_X12_addsHost_29  n) l0 l1 l2 l3 m0
def bb_X12_addsHost_2  : Nat → Nat → Int32 → Int32 → Int32 → ab_Mm → Option (Unit × ab_Mm)
  | 0, _, _, _, _, _ => none
  | n + 1, l0, l1, l2, l3, m0 =>
    if ((1 : Int32) <<< (l2 &&& 31)) ≤ l3 then
      bb_X12_addsHost_29  ab_fu l0 l1 l2 (1 : Int32) m0
    else
      (ab_fR m0 12 l0 23).bind fun v1 =>
      (ab_fR m0 12 l0 22).bind fun v2 =>
      (ab_ld m0 1 v2 l3).bind fun v3 =>
      (ab_st m0 1 v1 l3 v3).bind fun m4 =>
      bb_X12_addsHost_2  n l0 l1 l2 (l3 + (1 : Int32)) m4
def dd_X12_addsHost  (l0 : Nat) (l1 : Int32) (l2 : Int32) (m0 : ab_Mm) : Option (Unit × ab_Mm) :=
  bb_X12_addsHost_2  ab_fu l0 l1 l2 (0 : Int32) m0
def bb_X12_fewestHosts_173  : Nat → Nat → Int32 → Int32 → ab_Mm → Option (Int32 × ab_Mm)
  | 0, _, _, _, _ => none
  | n + 1, l0, l1, l2, m0 =>
    (ab_fR m0 12 l0 2).bind fun v1 =>
    (ab_ld m0 1 v1 (0 : Int32)).bind fun v2 =>
    if v2 ≤ l2 then
      (ab_fR m0 12 l0 22).bind fun v3 =>
      (ab_ld m0 1 v3 (((1 : Int32) <<< (l1 &&& 31)) - (1 : Int32))).bind fun v4 =>
      some (v4, m0)
    else
      (ab_rc m0 12 l0).bind fun _ =>
      (dd_X12_addsHost l0 l2 l1 m0).bind fun q5 =>
      bb_X12_fewestHosts_173  n l0 l1 (l2 + (1 : Int32)) q5.2
def bb_X12_fewestHosts_150 (r127 : Nat → Int32 → Int32 → ab_Mm → Option (Int32 × ab_Mm)) (l0 : Nat) (l1 : Int32) (l2 : Int32) (s0 : Nat) (s1 : Int32) (s2 : Int32) (m0 : ab_Mm) : Option (Int32 × ab_Mm) :=
  (ab_st m0 1 s0 s1 s2).bind fun m1 =>
  r127 l0 l1 (l2 + (1 : Int32)) m1
def bb_X12_fewestHosts_127  : Nat → Nat → Int32 → Int32 → ab_Mm → Option (Int32 × ab_Mm)
  | 0, _, _, _, _ => none
  | n + 1, l0, l1, l2, m0 =>
    if ((1 : Int32) <<< (l1 &&& 31)) ≤ l2 then
      (ab_fR m0 12 l0 24).bind fun v1 =>
      (ab_st m0 1 v1 (0 : Int32) (0 : Int32)).bind fun m2 =>
      (ab_fR m2 12 l0 25).bind fun v3 =>
      (ab_st m2 1 v3 (0 : Int32) (0 : Int32)).bind fun m4 =>
      bb_X12_fewestHosts_173  ab_fu l0 l1 (0 : Int32) m4
    else
      (ab_fR m0 12 l0 22).bind fun v5 =>
      if l2 = 0 then
        bb_X12_fewestHosts_150 (bb_X12_fewestHosts_127  n) l0 l1 l2 v5 l2 (0 : Int32) m0
      else
        bb_X12_fewestHosts_150 (bb_X12_fewestHosts_127  n) l0 l1 l2 v5 l2 (1000 : Int32) m0
def bb_X12_fewestHosts_119 (r9 : Nat → Int32 → Int32 → ab_Mm → Option (Int32 × ab_Mm)) (l0 : Nat) (l1 : Int32) (l2 : Int32) (m0 : ab_Mm) : Option (Int32 × ab_Mm) :=
  r9 l0 l1 (l2 + (1 : Int32)) m0
def bb_X12_fewestHosts_93 (r9 : Nat → Int32 → Int32 → ab_Mm → Option (Int32 × ab_Mm)) (r25 : Nat → Int32 → Int32 → Int32 → ab_Mm → Option (Int32 × ab_Mm)) (l0 : Nat) (l1 : Int32) (l2 : Int32) (l3 : Int32) (s0 : Nat) (s1 : Int32) (s2 : Int32) (m0 : ab_Mm) : Option (Int32 × ab_Mm) :=
  (ab_fR m0 12 l0 4).bind fun v1 =>
  (ab_rc m0 12 l0).bind fun _ =>
  (dd_X12_its l0 l2 (1 : Int32) m0).bind fun q2 =>
  (ab_ld q2.2 1 v1 (((3 : Int32) * q2.1) + (1 : Int32))).bind fun v3 =>
  (ab_st q2.2 1 s0 s1 (s2 + v3)).bind fun m4 =>
  r25 l0 l1 l2 (l3 + (1 : Int32)) m4
def bb_X12_fewestHosts_55 (r9 : Nat → Int32 → Int32 → ab_Mm → Option (Int32 × ab_Mm)) (r25 : Nat → Int32 → Int32 → Int32 → ab_Mm → Option (Int32 × ab_Mm)) (l0 : Nat) (l1 : Int32) (l2 : Int32) (l3 : Int32) (s0 : Nat) (s1 : Int32) (s2 : Int32) (m0 : ab_Mm) : Option (Int32 × ab_Mm) :=
  (ab_fR m0 12 l0 4).bind fun v1 =>
  (ab_rc m0 12 l0).bind fun _ =>
  (dd_X12_its l0 l2 (1 : Int32) m0).bind fun q2 =>
  (ab_ld q2.2 1 v1 ((3 : Int32) * q2.1)).bind fun v3 =>
  (ab_st q2.2 1 s0 s1 (s2 + v3)).bind fun m4 =>
  (ab_fR m4 12 l0 25).bind fun v5 =>
  if l1 = 0 then
    bb_X12_fewestHosts_93 r9 r25 l0 l1 l2 l3 v5 (l3 ||| ((1 : Int32) <<< (l1 &&& 31))) (0 : Int32) m4
  else
    (ab_fR m4 12 l0 25).bind fun v6 =>
    (ab_ld m4 1 v6 l3).bind fun v7 =>
    bb_X12_fewestHosts_93 r9 r25 l0 l1 l2 l3 v5 (l3 ||| ((1 : Int32) <<< (l1 &&& 31))) v7 m4
def bb_X12_fewestHosts_25 (r9 : Nat → Int32 → Int32 → ab_Mm → Option (Int32 × ab_Mm)) : Nat → Nat → Int32 → Int32 → Int32 → ab_Mm → Option (Int32 × ab_Mm)
  | 0, _, _, _, _, _ => none
  | n + 1, l0, l1, l2, l3, m0 =>
    if ((1 : Int32) <<< (l1 &&& 31)) ≤ l3 then
      bb_X12_fewestHosts_119 r9 l0 (l1 + (1 : Int32)) l2 m0
    else
      (ab_fR m0 12 l0 24).bind fun v1 =>
      if l1 = 0 then
        bb_X12_fewestHosts_55 r9 (bb_X12_fewestHosts_25 r9 n) l0 l1 l2 l3 v1 (l3 ||| ((1 : Int32) <<< (l1 &&& 31))) (0 : Int32) m0
      else
        (ab_fR m0 12 l0 24).bind fun v2 =>
        (ab_ld m0 1 v2 l3).bind fun v3 =>
        bb_X12_fewestHosts_55 r9 (bb_X12_fewestHosts_25 r9 n) l0 l1 l2 l3 v1 (l3 ||| ((1 : Int32) <<< (l1 &&& 31))) v3 m0
def bb_X12_fewestHosts_9  : Nat → Nat → Int32 → Int32 → ab_Mm → Option (Int32 × ab_Mm)
  | 0, _, _, _, _ => none
  | n + 1, l0, l1, l2, m0 =>
    if (12 : Int32) ≤ l2 then
      bb_X12_fewestHosts_127  ab_fu l0 l1 (0 : Int32) m0
    else
      (ab_rc m0 12 l0).bind fun _ =>
      (dd_X12_runs l0 l2 m0).bind fun q1 =>
      if q1.1 = 0 then
        bb_X12_fewestHosts_119 (bb_X12_fewestHosts_9  n) l0 l1 l2 q1.2
      else
        bb_X12_fewestHosts_25 (bb_X12_fewestHosts_9  n) ab_fu l0 l1 l2 (0 : Int32) q1.2
def dd_X12_fewestHosts  (l0 : Nat) (m0 : ab_Mm) : Option (Int32 × ab_Mm) :=
  (ab_pI m0 12 l0 0 (0 : Int32)).bind fun m1 =>
  bb_X12_fewestHosts_9  ab_fu l0 (0 : Int32) (0 : Int32) m1
def bb_X12_bidsWithout_130  (s0 : Int32) (m0 : ab_Mm) : Option (Int32 × ab_Mm) :=
  some (s0, m0)
def bb_X12_bidsWithout_129   (m0 : ab_Mm) : Option (Int32 × ab_Mm) :=
  bb_X12_bidsWithout_130  (-1 : Int32) m0
def bb_X12_bidsWithout_90 (r22 : Nat → Int32 → Int32 → Int32 → Int32 → Int32 → Int32 → ab_Mm → Option (Int32 × ab_Mm)) (l0 : Nat) (l1 : Int32) (l3 : Int32) (l4 : Int32) (l5 : Int32) (l6 : Int32) (l7 : Int32) (m0 : ab_Mm) : Option (Int32 × ab_Mm) :=
  r22 l0 l1 l3 l4 l5 l6 (l7 + (1 : Int32)) m0
def bb_X12_bidsWithout_22  : Nat → Nat → Int32 → Int32 → Int32 → Int32 → Int32 → Int32 → ab_Mm → Option (Int32 × ab_Mm)
  | 0, _, _, _, _, _, _, _, _ => none
  | n + 1, l0, l1, l3, l4, l5, l6, l7, m0 =>
    if (12 : Int32) ≤ l7 then
      (ab_fR m0 12 l0 4).bind fun v1 =>
      (ab_ld m0 1 v1 ((3 : Int32) * l3)).bind fun v2 =>
      if l4 < v2 then
        bb_X12_bidsWithout_129   m0
      else
        (ab_fR m0 12 l0 4).bind fun v3 =>
        (ab_ld m0 1 v3 (((3 : Int32) * l3) + (1 : Int32))).bind fun v4 =>
        if l5 < v4 then
          bb_X12_bidsWithout_129   m0
        else
          bb_X12_bidsWithout_130  l6 m0
    else
      (dd_X12_has l1 l7 m0).bind fun q5 =>
      if q5.1 = 0 then
        bb_X12_bidsWithout_90 (bb_X12_bidsWithout_22  n) l0 l1 l3 l4 l5 l6 l7 q5.2
      else
        (ab_rc q5.2 12 l0).bind fun _ =>
        (dd_X12_its l0 l7 (3 : Int32) q5.2).bind fun q6 =>
        (ab_fR q6.2 12 l0 4).bind fun v7 =>
        (ab_rc q6.2 12 l0).bind fun _ =>
        (dd_X12_its l0 l7 (1 : Int32) q6.2).bind fun q8 =>
        (ab_ld q8.2 1 v7 ((3 : Int32) * q8.1)).bind fun v9 =>
        (ab_fR q8.2 12 l0 4).bind fun v10 =>
        (ab_rc q8.2 12 l0).bind fun _ =>
        (dd_X12_its l0 l7 (1 : Int32) q8.2).bind fun q11 =>
        (ab_ld q11.2 1 v10 (((3 : Int32) * q11.1) + (1 : Int32))).bind fun v12 =>
        bb_X12_bidsWithout_90 (bb_X12_bidsWithout_22  n) l0 l1 l3 (l4 + v9) (l5 + v12) (l6 + q6.1) l7 q11.2
def dd_X12_bidsWithout  (l0 : Nat) (l1 : Int32) (l2 : Int32) (l3 : Int32) (m0 : ab_Mm) : Option (Int32 × ab_Mm) :=
  (ab_rc m0 12 l0).bind fun _ =>
  (dd_X12_freeOf l0 l2 (0 : Int32) m0).bind fun q1 =>
  (ab_rc q1.2 12 l0).bind fun _ =>
  (dd_X12_freeOf l0 l2 (1 : Int32) q1.2).bind fun q2 =>
  bb_X12_bidsWithout_22  ab_fu l0 l1 l3 q1.1 q2.1 (0 : Int32) (0 : Int32) q2.2
def bb_X12_cheapestEviction_153 (r77 : Nat → Int32 → Int32 → Int32 → Int32 → Int32 → Int32 → ab_Mm → Option (Int32 × ab_Mm)) (l0 : Nat) (l1 : Int32) (l2 : Int32) (l3 : Int32) (l4 : Int32) (l5 : Int32) (l6 : Int32) (m0 : ab_Mm) : Option (Int32 × ab_Mm) :=
  r77 l0 l1 l2 l3 l4 l5 (l6 + (1 : Int32)) m0
def bb_X12_cheapestEviction_145 (r77 : Nat → Int32 → Int32 → Int32 → Int32 → Int32 → Int32 → ab_Mm → Option (Int32 × ab_Mm)) (l0 : Nat) (l1 : Int32) (l2 : Int32) (l3 : Int32) (l6 : Int32) (l7 : Int32) (m0 : ab_Mm) : Option (Int32 × ab_Mm) :=
  bb_X12_cheapestEviction_153 r77 l0 l1 l2 l3 l6 l7 l6 m0
def bb_X12_cheapestEviction_104 (r77 : Nat → Int32 → Int32 → Int32 → Int32 → Int32 → Int32 → ab_Mm → Option (Int32 × ab_Mm)) (l0 : Nat) (l1 : Int32) (l2 : Int32) (l3 : Int32) (l4 : Int32) (l5 : Int32) (l6 : Int32) (s0 : Int32) (m0 : ab_Mm) : Option (Int32 × ab_Mm) :=
  if s0 = (-1 : Int32) then
    bb_X12_cheapestEviction_153 r77 l0 l1 l2 l3 l4 l5 l6 m0
  else
    if l4 = (-1 : Int32) then
      bb_X12_cheapestEviction_145 r77 l0 l1 l2 l3 l6 s0 m0
    else
      if s0 < l5 then
        bb_X12_cheapestEviction_145 r77 l0 l1 l2 l3 l6 s0 m0
      else
        if s0 = l5 then
          (dd_X12_bits l6 m0).bind fun q1 =>
          (dd_X12_bits l4 q1.2).bind fun q2 =>
          if q2.1 ≤ q1.1 then
            bb_X12_cheapestEviction_153 r77 l0 l1 l2 l3 l4 l5 l6 q2.2
          else
            bb_X12_cheapestEviction_145 r77 l0 l1 l2 l3 l6 s0 q2.2
        else
          bb_X12_cheapestEviction_153 r77 l0 l1 l2 l3 l4 l5 l6 m0
def bb_X12_cheapestEviction_77  : Nat → Nat → Int32 → Int32 → Int32 → Int32 → Int32 → Int32 → ab_Mm → Option (Int32 × ab_Mm)
  | 0, _, _, _, _, _, _, _, _ => none
  | n + 1, l0, l1, l2, l3, l4, l5, l6, m0 =>
    if l3 < l6 then
      some (l4, m0)
    else
      if (l6 &&& (l3 ^^^ (-1 : Int32))) = 0 then
        (ab_rc m0 12 l0).bind fun _ =>
        (dd_X12_bidsWithout l0 l6 l1 l2 m0).bind fun q1 =>
        bb_X12_cheapestEviction_104 (bb_X12_cheapestEviction_77  n) l0 l1 l2 l3 l4 l5 l6 q1.1 q1.2
      else
        bb_X12_cheapestEviction_104 (bb_X12_cheapestEviction_77  n) l0 l1 l2 l3 l4 l5 l6 (-1 : Int32) m0
def bb_X12_cheapestEviction_60 (r23 : Nat → Int32 → Int32 → Int32 → Int32 → ab_Mm → Option (Int32 × ab_Mm)) (l0 : Nat) (l1 : Int32) (l2 : Int32) (l4 : Int32) (s0 : Int32) (s1 : Int32) (m0 : ab_Mm) : Option (Int32 × ab_Mm) :=
  r23 l0 l1 l2 (s0 ||| s1) (l4 + (1 : Int32)) m0
def bb_X12_cheapestEviction_59 (r23 : Nat → Int32 → Int32 → Int32 → Int32 → ab_Mm → Option (Int32 × ab_Mm)) (l0 : Nat) (l1 : Int32) (l2 : Int32) (l4 : Int32) (s0 : Int32) (m0 : ab_Mm) : Option (Int32 × ab_Mm) :=
  bb_X12_cheapestEviction_60 r23 l0 l1 l2 l4 s0 (0 : Int32) m0
def bb_X12_cheapestEviction_23  : Nat → Nat → Int32 → Int32 → Int32 → Int32 → ab_Mm → Option (Int32 × ab_Mm)
  | 0, _, _, _, _, _, _ => none
  | n + 1, l0, l1, l2, l3, l4, m0 =>
    if (12 : Int32) ≤ l4 then
      bb_X12_cheapestEviction_77  ab_fu l0 l1 l2 l3 (-1 : Int32) (0 : Int32) (0 : Int32) m0
    else
      (ab_rc m0 12 l0).bind fun _ =>
      (dd_X12_isOn l0 l4 l1 m0).bind fun q1 =>
      if q1.1 = 0 then
        bb_X12_cheapestEviction_59 (bb_X12_cheapestEviction_23  n) l0 l1 l2 l4 l3 q1.2
      else
        (ab_rc q1.2 12 l0).bind fun _ =>
        (dd_X12_its l0 l4 (3 : Int32) q1.2).bind fun q2 =>
        if q2.1 = (-1 : Int32) then
          bb_X12_cheapestEviction_59 (bb_X12_cheapestEviction_23  n) l0 l1 l2 l4 l3 q2.2
        else
          bb_X12_cheapestEviction_60 (bb_X12_cheapestEviction_23  n) l0 l1 l2 l4 l3 ((1 : Int32) <<< (l4 &&& 31)) q2.2
def bb_X12_cheapestEviction_16   (m0 : ab_Mm) : Option (Int32 × ab_Mm) :=
  some ((0 : Int32), m0)
def dd_X12_cheapestEviction  (l0 : Nat) (l1 : Int32) (l2 : Int32) (m0 : ab_Mm) : Option (Int32 × ab_Mm) :=
  (ab_rc m0 12 l0).bind fun _ =>
  (dd_X12_noHost l0 l1 m0).bind fun q1 =>
  if q1.1 = 0 then
    (ab_rc q1.2 12 l0).bind fun _ =>
    (dd_X12_noType l0 l2 q1.2).bind fun q2 =>
    if q2.1 = 0 then
      bb_X12_cheapestEviction_23  ab_fu l0 l1 l2 (0 : Int32) (0 : Int32) q2.2
    else
      bb_X12_cheapestEviction_16   q2.2
  else
    bb_X12_cheapestEviction_16   q1.2
def bb_X12_migrationCost_17  (s0 : Int32) (m0 : ab_Mm) : Option (Int32 × ab_Mm) :=
  some (s0, m0)
def dd_X12_migrationCost  (l0 : Nat) (l1 : Int32) (m0 : ab_Mm) : Option (Int32 × ab_Mm) :=
  (ab_rc m0 12 l0).bind fun _ =>
  (dd_X12_noInstance l0 l1 m0).bind fun q1 =>
  if q1.1 = 0 then
    (ab_rc q1.2 12 l0).bind fun _ =>
    (dd_X12_costOf l0 l1 q1.2).bind fun q2 =>
    bb_X12_migrationCost_17  q2.1 q2.2
  else
    bb_X12_migrationCost_17  (0 : Int32) q1.2
def bb_X12_drains_116 (c_X12_drains : Nat → Int32 → Int32 → Int32 → ab_Mm → Option (Int32 × ab_Mm)) (r37 : Nat → Int32 → Int32 → Int32 → Int32 → Int32 → ab_Mm → Option (Int32 × ab_Mm)) (l0 : Nat) (l1 : Int32) (l2 : Int32) (l3 : Int32) (l4 : Int32) (l5 : Int32) (m0 : ab_Mm) : Option (Int32 × ab_Mm) :=
  r37 l0 l1 l2 l3 l4 (l5 + (1 : Int32)) m0
def bb_X12_drains_37 (c_X12_drains : Nat → Int32 → Int32 → Int32 → ab_Mm → Option (Int32 × ab_Mm)) : Nat → Nat → Int32 → Int32 → Int32 → Int32 → Int32 → ab_Mm → Option (Int32 × ab_Mm)
  | 0, _, _, _, _, _, _, _ => none
  | n + 1, l0, l1, l2, l3, l4, l5, m0 =>
    (ab_fR m0 12 l0 2).bind fun v1 =>
    (ab_ld m0 1 v1 (0 : Int32)).bind fun v2 =>
    if v2 ≤ l5 then
      some ((0 : Int32), m0)
    else
      if l5 = l1 then
        bb_X12_drains_116 c_X12_drains (bb_X12_drains_37 c_X12_drains n) l0 l1 l2 l3 l4 l5 m0
      else
        (ab_rc m0 12 l0).bind fun _ =>
        (dd_X12_fits l0 l4 l5 m0).bind fun q3 =>
        if q3.1 = 0 then
          bb_X12_drains_116 c_X12_drains (bb_X12_drains_37 c_X12_drains n) l0 l1 l2 l3 l4 l5 q3.2
        else
          (ab_fR q3.2 12 l0 26).bind fun v4 =>
          (ab_st q3.2 1 v4 l3 l5).bind fun m5 =>
          (ab_fR m5 12 l0 1).bind fun v6 =>
          (dd_X12_of l3 (2 : Int32) m5).bind fun q7 =>
          (ab_stJ q7.2 v6 q7.1 l5.toInt64).bind fun m8 =>
          (ab_rc m8 12 l0).bind fun _ =>
          (c_X12_drains l0 l1 l2 (l3 + (1 : Int32)) m8).bind fun q9 =>
          (ab_fR q9.2 12 l0 1).bind fun v10 =>
          (dd_X12_of l3 (2 : Int32) q9.2).bind fun q11 =>
          (ab_stJ q11.2 v10 q11.1 l1.toInt64).bind fun m12 =>
          if q9.1 = 0 then
            bb_X12_drains_116 c_X12_drains (bb_X12_drains_37 c_X12_drains n) l0 l1 l2 l3 l4 l5 m12
          else
            some ((1 : Int32), m12)
def st_X12_drains (c_X12_drains : Nat → Int32 → Int32 → Int32 → ab_Mm → Option (Int32 × ab_Mm)) (l0 : Nat) (l1 : Int32) (l2 : Int32) (l3 : Int32) (m0 : ab_Mm) : Option (Int32 × ab_Mm) :=
  if l3 = (12 : Int32) then
    some ((1 : Int32), m0)
  else
    (dd_X12_has l2 l3 m0).bind fun q1 =>
    if q1.1 = 0 then
      (ab_rc q1.2 12 l0).bind fun _ =>
      (c_X12_drains l0 l1 l2 (l3 + (1 : Int32)) q1.2).bind fun q3 =>
      if ¬ (q3.1 &&& 1 = q3.1) then none else
      some (q3.1, q3.2)
    else
      (ab_rc q1.2 12 l0).bind fun _ =>
      (dd_X12_its l0 l3 (1 : Int32) q1.2).bind fun q2 =>
      bb_X12_drains_37 c_X12_drains ab_fu l0 l1 l2 l3 q2.1 (0 : Int32) q2.2
def dd_X12_drains : Nat → Nat → Int32 → Int32 → Int32 → ab_Mm → Option (Int32 × ab_Mm)
  | 0, _, _, _, _, _ => none
  | n + 1, a0, a1, a2, a3, m => st_X12_drains (dd_X12_drains n) a0 a1 a2 a3 m
def bb_X12_drainTo_75  (s0 : Int32) (m0 : ab_Mm) : Option (Int32 × ab_Mm) :=
  some (s0, m0)
def bb_X12_drainTo_46  (l0 : Nat) (l1 : Int32) (l2 : Int32) (l3 : Int32) (s0 : Nat) (s1 : Int32) (m0 : ab_Mm) : Option (Int32 × ab_Mm) :=
  (ab_rc m0 12 s0).bind fun _ =>
  (dd_X12_throwsIf s0 s1 (2 : Int32) m0).bind fun q1 =>
  if q1.1 = 0 then
    (ab_rc q1.2 12 l0).bind fun _ =>
    (dd_X12_drains 30 l0 l1 l3 (0 : Int32) q1.2).bind fun q2 =>
    if q2.1 = 0 then
      bb_X12_drainTo_75  (-1 : Int32) q2.2
    else
      (ab_fR q2.2 12 l0 26).bind fun v3 =>
      (ab_ld q2.2 1 v3 l2).bind fun v4 =>
      bb_X12_drainTo_75  v4 q2.2
  else
    some ((0 : Int32), q1.2)
def bb_X12_drainTo_41  (l0 : Nat) (l1 : Int32) (l2 : Int32) (l3 : Int32) (s0 : Nat) (m0 : ab_Mm) : Option (Int32 × ab_Mm) :=
  bb_X12_drainTo_46  l0 l1 l2 l3 s0 (1 : Int32) m0
def bb_X12_drainTo_16   (m0 : ab_Mm) : Option (Int32 × ab_Mm) :=
  some ((0 : Int32), m0)
def dd_X12_drainTo  (l0 : Nat) (l1 : Int32) (l2 : Int32) (m0 : ab_Mm) : Option (Int32 × ab_Mm) :=
  (ab_rc m0 12 l0).bind fun _ =>
  (dd_X12_noHost l0 l1 m0).bind fun q1 =>
  if q1.1 = 0 then
    (ab_rc q1.2 12 l0).bind fun _ =>
    (dd_X12_noInstance l0 l2 q1.2).bind fun q2 =>
    if q2.1 = 0 then
      (ab_rc q2.2 12 l0).bind fun _ =>
      (dd_X12_onHost l0 l1 q2.2).bind fun q3 =>
      (dd_X12_has q3.1 l2 q3.2).bind fun q4 =>
      if q4.1 = 0 then
        bb_X12_drainTo_41  l0 l1 l2 q3.1 l0 q4.2
      else
        (dd_X12_bits q3.1 q4.2).bind fun q5 =>
        if q5.1 ≤ (5 : Int32) then
          bb_X12_drainTo_46  l0 l1 l2 q3.1 l0 (0 : Int32) q5.2
        else
          bb_X12_drainTo_41  l0 l1 l2 q3.1 l0 q5.2
    else
      bb_X12_drainTo_16   q2.2
  else
    bb_X12_drainTo_16   q1.2
def bb_X12_beginsOne_3  : Nat → Nat → Int32 → Int32 → Int32 → Int32 → Int32 → ab_Mm → Option (Int32 × ab_Mm)
  | 0, _, _, _, _, _, _, _ => none
  | n + 1, l0, l1, l2, l3, l4, l5, m0 =>
    (ab_rc m0 12 l0).bind fun _ =>
    (dd_X12_runs l0 l5 m0).bind fun q1 =>
    if q1.1 = 0 then
      (ab_fR q1.2 12 l0 1).bind fun v2 =>
      (dd_X12_of l5 (0 : Int32) q1.2).bind fun q3 =>
      (ab_stJ q3.2 v2 q3.1 l1.toInt64).bind fun m4 =>
      (ab_fR m4 12 l0 1).bind fun v5 =>
      (dd_X12_of l5 (1 : Int32) m4).bind fun q6 =>
      (ab_stJ q6.2 v5 q6.1 l2.toInt64).bind fun m7 =>
      (ab_fR m7 12 l0 1).bind fun v8 =>
      (dd_X12_of l5 (2 : Int32) m7).bind fun q9 =>
      (ab_stJ q9.2 v8 q9.1 l3.toInt64).bind fun m10 =>
      (ab_fR m10 12 l0 1).bind fun v11 =>
      (dd_X12_of l5 (3 : Int32) m10).bind fun q12 =>
      (ab_stJ q12.2 v11 q12.1 l4.toInt64).bind fun m13 =>
      (ab_fR m13 12 l0 1).bind fun v14 =>
      (dd_X12_of l5 (4 : Int32) m13).bind fun q15 =>
      (ab_stJ q15.2 v14 q15.1 (-1 : Int64)).bind fun m16 =>
      (ab_fR m16 12 l0 1).bind fun v17 =>
      (dd_X12_of l5 (5 : Int32) m16).bind fun q18 =>
      (ab_fR q18.2 12 l0 1).bind fun v19 =>
      (ab_ldJ q18.2 v19 (0 : Int32)).bind fun v20 =>
      (ab_stJ q18.2 v17 q18.1 v20).bind fun m21 =>
      some (l5, m21)
    else
      bb_X12_beginsOne_3  n l0 l1 l2 l3 l4 (l5 + (1 : Int32)) q1.2
def dd_X12_beginsOne  (l0 : Nat) (l1 : Int32) (l2 : Int32) (l3 : Int32) (l4 : Int32) (m0 : ab_Mm) : Option (Int32 × ab_Mm) :=
  bb_X12_beginsOne_3  ab_fu l0 l1 l2 l3 l4 (0 : Int32) m0
def bb_X12_beginsRequest_75   (m0 : ab_Mm) : Option (Int32 × ab_Mm) :=
  some ((0 : Int32), m0)
def dd_X12_beginsRequest  (l0 : Nat) (l1 : Int32) (m0 : ab_Mm) : Option (Int32 × ab_Mm) :=
  (ab_fR m0 12 l0 1).bind fun v1 =>
  (ab_ldJ m0 v1 ((86 : Int32) + ((3 : Int32) * l1))).bind fun v2 =>
  (ab_fR m0 12 l0 1).bind fun v3 =>
  (ab_ldJ m0 v3 (((86 : Int32) + ((3 : Int32) * l1)) + (1 : Int32))).bind fun v4 =>
  (ab_rc m0 12 l0).bind fun _ =>
  (dd_X12_bidAt l0 l1 m0).bind fun q5 =>
  (ab_rc q5.2 12 l0).bind fun _ =>
  (dd_X12_bestFor l0 v4.toInt32 q5.2).bind fun q6 =>
  (ab_fR q6.2 12 l0 1).bind fun v7 =>
  (ab_ldJ q6.2 v7 ((2 : Int32) + v4.toInt32)).bind fun v8 =>
  if (lg_cmp q5.1.toInt64 v8) < 0 then
    bb_X12_beginsRequest_75   q6.2
  else
    (ab_rc q6.2 12 l0).bind fun _ =>
    (dd_X12_runningOnes l0 q6.2).bind fun q9 =>
    (dd_X12_bits q9.1 q9.2).bind fun q10 =>
    if q10.1 = (12 : Int32) then
      bb_X12_beginsRequest_75   q10.2
    else
      if q6.1 = (-1 : Int32) then
        bb_X12_beginsRequest_75   q10.2
      else
        (ab_rc q10.2 12 l0).bind fun _ =>
        (dd_X12_beginsOne l0 v2.toInt32 v4.toInt32 q6.1 q5.1 q10.2).bind fun q11 =>
        (ab_rc q11.2 12 l0).bind fun _ =>
        (dd_X12_dropsRequest l0 l1 q11.2).bind fun q12 =>
        some ((1 : Int32), q12.2)
def bb_X12_hour_288 (r272 : Nat → Int32 → Int32 → ab_Mm → Option (Unit × ab_Mm)) (l0 : Nat) (l1 : Int32) (m0 : ab_Mm) : Option (Unit × ab_Mm) :=
  (ab_rc m0 12 l0).bind fun _ =>
  (dd_X12_requestAt l0 l1 m0).bind fun q1 =>
  r272 l0 l1 q1.1 q1.2
def bb_X12_hour_272  : Nat → Nat → Int32 → Int32 → ab_Mm → Option (Unit × ab_Mm)
  | 0, _, _, _, _ => none
  | n + 1, l0, l1, l2, m0 =>
    if l2 = (-1 : Int32) then
      some ((), m0)
    else
      (ab_rc m0 12 l0).bind fun _ =>
      (dd_X12_beginsRequest l0 l2 m0).bind fun q1 =>
      if q1.1 = 0 then
        bb_X12_hour_288 (bb_X12_hour_272  n) l0 (l1 + (1 : Int32)) q1.2
      else
        bb_X12_hour_288 (bb_X12_hour_272  n) l0 l1 q1.2
def bb_X12_hour_258 (r134 : Nat → Int32 → ab_Mm → Option (Unit × ab_Mm)) (l0 : Nat) (l1 : Int32) (m0 : ab_Mm) : Option (Unit × ab_Mm) :=
  r134 l0 (l1 + (1 : Int32)) m0
def bb_X12_hour_257 (r134 : Nat → Int32 → ab_Mm → Option (Unit × ab_Mm)) (l0 : Nat) (l1 : Int32) (s0 : Nat) (s1 : Int32) (s2 : Int64) (m0 : ab_Mm) : Option (Unit × ab_Mm) :=
  (ab_stJ m0 s0 s1 s2).bind fun m1 =>
  bb_X12_hour_258 r134 l0 l1 m1
def bb_X12_hour_206 (r134 : Nat → Int32 → ab_Mm → Option (Unit × ab_Mm)) (l0 : Nat) (l1 : Int32) (l2 : Int32) (s0 : Int32) (m0 : ab_Mm) : Option (Unit × ab_Mm) :=
  (ab_fR m0 12 l0 1).bind fun v1 =>
  (dd_X12_of l1 (4 : Int32) m0).bind fun q2 =>
  if l2 = 0 then
    bb_X12_hour_257 r134 l0 l1 v1 q2.1 (-1 : Int64) q2.2
  else
    if s0 = 0 then
      (ab_fR q2.2 12 l0 1).bind fun v3 =>
      (dd_X12_of l1 (4 : Int32) q2.2).bind fun q4 =>
      (ab_ldJ q4.2 v3 q4.1).bind fun v5 =>
      bb_X12_hour_257 r134 l0 l1 v1 q2.1 v5 q4.2
    else
      (ab_fR q2.2 12 l0 1).bind fun v6 =>
      (ab_ldJ q2.2 v6 (0 : Int32)).bind fun v7 =>
      (ab_fR q2.2 12 l0 2).bind fun v8 =>
      (ab_ld q2.2 1 v8 (5 : Int32)).bind fun v9 =>
      bb_X12_hour_257 r134 l0 l1 v1 q2.1 (v7 + v9.toInt64) q2.2
def bb_X12_hour_190 (r134 : Nat → Int32 → ab_Mm → Option (Unit × ab_Mm)) (l0 : Nat) (l1 : Int32) (s0 : Int32) (m0 : ab_Mm) : Option (Unit × ab_Mm) :=
  (ab_rc m0 12 l0).bind fun _ =>
  (dd_X12_its l0 l1 (4 : Int32) m0).bind fun q1 =>
  if q1.1 = (-1 : Int32) then
    bb_X12_hour_206 r134 l0 l1 s0 (1 : Int32) q1.2
  else
    bb_X12_hour_206 r134 l0 l1 s0 (0 : Int32) q1.2
def bb_X12_hour_134  : Nat → Nat → Int32 → ab_Mm → Option (Unit × ab_Mm)
  | 0, _, _, _ => none
  | n + 1, l0, l1, m0 =>
    if (12 : Int32) ≤ l1 then
      (ab_rc m0 12 l0).bind fun _ =>
      (dd_X12_requestAt l0 (0 : Int32) m0).bind fun q1 =>
      bb_X12_hour_272  ab_fu l0 (0 : Int32) q1.1 q1.2
    else
      (ab_rc m0 12 l0).bind fun _ =>
      (dd_X12_runs l0 l1 m0).bind fun q2 =>
      if q2.1 = 0 then
        bb_X12_hour_258 (bb_X12_hour_134  n) l0 l1 q2.2
      else
        (ab_rc q2.2 12 l0).bind fun _ =>
        (dd_X12_its l0 l1 (3 : Int32) q2.2).bind fun q3 =>
        if q3.1 = (-1 : Int32) then
          bb_X12_hour_258 (bb_X12_hour_134  n) l0 l1 q3.2
        else
          (ab_fR q3.2 12 l0 1).bind fun v4 =>
          (dd_X12_of l1 (3 : Int32) q3.2).bind fun q5 =>
          (ab_ldJ q5.2 v4 q5.1).bind fun v6 =>
          (ab_fR q5.2 12 l0 1).bind fun v7 =>
          (ab_rc q5.2 12 l0).bind fun _ =>
          (dd_X12_its l0 l1 (1 : Int32) q5.2).bind fun q8 =>
          (ab_ldJ q8.2 v7 ((2 : Int32) + q8.1)).bind fun v9 =>
          if 0 ≤ (lg_cmp v6 v9) then
            bb_X12_hour_190 (bb_X12_hour_134  n) l0 l1 (0 : Int32) q8.2
          else
            bb_X12_hour_190 (bb_X12_hour_134  n) l0 l1 (1 : Int32) q8.2
def bb_X12_hour_122 (r53 : Nat → Int32 → ab_Mm → Option (Unit × ab_Mm)) (l0 : Nat) (l1 : Int32) (m0 : ab_Mm) : Option (Unit × ab_Mm) :=
  r53 l0 (l1 + (1 : Int32)) m0
def bb_X12_hour_53  : Nat → Nat → Int32 → ab_Mm → Option (Unit × ab_Mm)
  | 0, _, _, _ => none
  | n + 1, l0, l1, m0 =>
    if (12 : Int32) ≤ l1 then
      (ab_rc m0 12 l0).bind fun _ =>
      (dd_X12_setsPrices l0 m0).bind fun q1 =>
      bb_X12_hour_134  ab_fu l0 (0 : Int32) q1.2
    else
      (ab_rc m0 12 l0).bind fun _ =>
      (dd_X12_runs l0 l1 m0).bind fun q2 =>
      if q2.1 = 0 then
        bb_X12_hour_122 (bb_X12_hour_53  n) l0 l1 q2.2
      else
        (ab_rc q2.2 12 l0).bind fun _ =>
        (dd_X12_its l0 l1 (4 : Int32) q2.2).bind fun q3 =>
        if q3.1 = (-1 : Int32) then
          bb_X12_hour_122 (bb_X12_hour_53  n) l0 l1 q3.2
        else
          (ab_fR q3.2 12 l0 1).bind fun v4 =>
          (dd_X12_of l1 (4 : Int32) q3.2).bind fun q5 =>
          (ab_ldJ q5.2 v4 q5.1).bind fun v6 =>
          (ab_fR q5.2 12 l0 1).bind fun v7 =>
          (ab_ldJ q5.2 v7 (0 : Int32)).bind fun v8 =>
          if 0 < (lg_cmp v6 v8) then
            bb_X12_hour_122 (bb_X12_hour_53  n) l0 l1 q5.2
          else
            (ab_fR q5.2 12 l0 1).bind fun v9 =>
            (dd_X12_of l1 (0 : Int32) q5.2).bind fun q10 =>
            (ab_stJ q10.2 v9 q10.1 (-1 : Int64)).bind fun m11 =>
            (ab_fI m11 12 l0 27).bind fun v12 =>
            (ab_pI m11 12 l0 27 (v12 ||| ((1 : Int32) <<< (l1 &&& 31)))).bind fun m13 =>
            bb_X12_hour_122 (bb_X12_hour_53  n) l0 l1 m13
def bb_X12_hour_2  : Nat → Nat → Int32 → ab_Mm → Option (Unit × ab_Mm)
  | 0, _, _, _ => none
  | n + 1, l0, l1, m0 =>
    (ab_fR m0 12 l0 2).bind fun v1 =>
    (ab_ld m0 1 v1 (2 : Int32)).bind fun v2 =>
    if v2 ≤ l1 then
      (ab_fR m0 12 l0 1).bind fun v3 =>
      (ab_ldJ m0 v3 (0 : Int32)).bind fun v4 =>
      (ab_stJ m0 v3 (0 : Int32) (v4 + (1 : Int64))).bind fun m5 =>
      (ab_pI m5 12 l0 27 (0 : Int32)).bind fun m6 =>
      bb_X12_hour_53  ab_fu l0 (0 : Int32) m6
    else
      (ab_fR m0 12 l0 1).bind fun v7 =>
      (ab_ldJ m0 v7 ((8 : Int32) + l1)).bind fun v8 =>
      (ab_rc m0 12 l0).bind fun _ =>
      (dd_X12_billOf l0 l1 m0).bind fun q9 =>
      (ab_stJ q9.2 v7 ((8 : Int32) + l1) (v8 + q9.1.toInt64)).bind fun m10 =>
      bb_X12_hour_2  n l0 (l1 + (1 : Int32)) m10
def dd_X12_hour  (l0 : Nat) (m0 : ab_Mm) : Option (Unit × ab_Mm) :=
  bb_X12_hour_2  ab_fu l0 (0 : Int32) m0
def bb_X12_copies_3  : Nat → Nat → Int32 → Nat → Int32 → Int32 → Int32 → ab_Mm → Option (Unit × ab_Mm)
  | 0, _, _, _, _, _, _, _ => none
  | n + 1, l0, l1, l2, l3, l4, l5, m0 =>
    if l4 ≤ l5 then
      some ((), m0)
    else
      (ab_ldJ m0 l0 (l1 + l5)).bind fun v1 =>
      (ab_stJ m0 l2 (l3 + l5) v1).bind fun m2 =>
      bb_X12_copies_3  n l0 l1 l2 l3 l4 (l5 + (1 : Int32)) m2
def dd_X12_copies  (l0 : Nat) (l1 : Int32) (l2 : Nat) (l3 : Int32) (l4 : Int32) (m0 : ab_Mm) : Option (Unit × ab_Mm) :=
  bb_X12_copies_3  ab_fu l0 l1 l2 l3 l4 (0 : Int32) m0
def bb_X12_priceAfter_52  : Nat → Nat → Int32 → Int32 → Int32 → ab_Mm → Option (Int32 × ab_Mm)
  | 0, _, _, _, _, _ => none
  | n + 1, l0, l1, l2, l3, m0 =>
    if l2 ≤ l3 then
      (ab_fR m0 12 l0 1).bind fun v1 =>
      (ab_ldJ m0 v1 ((2 : Int32) + l1)).bind fun v2 =>
      (ab_fR m0 12 l0 28).bind fun v3 =>
      (ab_fR m0 12 l0 1).bind fun v4 =>
      (dd_X12_copies v3 (0 : Int32) v4 (0 : Int32) (116 : Int32) m0).bind fun q5 =>
      some (v2.toInt32, q5.2)
    else
      (ab_rc m0 12 l0).bind fun _ =>
      (dd_X12_hour l0 m0).bind fun q6 =>
      bb_X12_priceAfter_52  n l0 l1 l2 (l3 + (1 : Int32)) q6.2
def bb_X12_priceAfter_33   (m0 : ab_Mm) : Option (Int32 × ab_Mm) :=
  some ((0 : Int32), m0)
def bb_X12_priceAfter_26  (l0 : Nat) (l1 : Int32) (l2 : Int32) (s0 : Nat) (s1 : Int32) (m0 : ab_Mm) : Option (Int32 × ab_Mm) :=
  (ab_rc m0 12 s0).bind fun _ =>
  (dd_X12_throwsIf s0 s1 (2 : Int32) m0).bind fun q1 =>
  if q1.1 = 0 then
    (ab_fR q1.2 12 l0 1).bind fun v2 =>
    (ab_fR q1.2 12 l0 28).bind fun v3 =>
    (dd_X12_copies v2 (0 : Int32) v3 (0 : Int32) (116 : Int32) q1.2).bind fun q4 =>
    bb_X12_priceAfter_52  ab_fu l0 l1 l2 (0 : Int32) q4.2
  else
    bb_X12_priceAfter_33   q1.2
def dd_X12_priceAfter  (l0 : Nat) (l1 : Int32) (l2 : Int32) (m0 : ab_Mm) : Option (Int32 × ab_Mm) :=
  (ab_rc m0 12 l0).bind fun _ =>
  (dd_X12_noType l0 l1 m0).bind fun q1 =>
  if q1.1 = 0 then
    (dd_X12_within l2.toInt64 (0 : Int64) (200 : Int64) q1.2).bind fun q2 =>
    if q2.1 = 0 then
      bb_X12_priceAfter_26  l0 l1 l2 l0 (1 : Int32) q2.2
    else
      bb_X12_priceAfter_26  l0 l1 l2 l0 (0 : Int32) q2.2
  else
    bb_X12_priceAfter_33   q1.2
def bb_X12_evictedAfter_68  (l0 : Nat) (l2 : Int32) (m0 : ab_Mm) : Option (Int32 × ab_Mm) :=
  (ab_fR m0 12 l0 28).bind fun v1 =>
  (ab_fR m0 12 l0 1).bind fun v2 =>
  (dd_X12_copies v1 (0 : Int32) v2 (0 : Int32) (116 : Int32) m0).bind fun q3 =>
  some (l2, q3.2)
def bb_X12_evictedAfter_61 (r29 : Nat → Int32 → Int32 → Int32 → ab_Mm → Option (Int32 × ab_Mm)) (l0 : Nat) (l1 : Int32) (l3 : Int32) (s0 : Int32) (m0 : ab_Mm) : Option (Int32 × ab_Mm) :=
  r29 l0 l1 s0 (l3 + (1 : Int32)) m0
def bb_X12_evictedAfter_29  : Nat → Nat → Int32 → Int32 → Int32 → ab_Mm → Option (Int32 × ab_Mm)
  | 0, _, _, _, _, _ => none
  | n + 1, l0, l1, l2, l3, m0 =>
    if (200 : Int32) < l3 then
      bb_X12_evictedAfter_68  l0 l2 m0
    else
      if l2 = (-1 : Int32) then
        (ab_rc m0 12 l0).bind fun _ =>
        (dd_X12_hour l0 m0).bind fun q1 =>
        (ab_fI q1.2 12 l0 27).bind fun v2 =>
        (dd_X12_has v2 l1 q1.2).bind fun q3 =>
        if q3.1 = 0 then
          bb_X12_evictedAfter_61 (bb_X12_evictedAfter_29  n) l0 l1 l3 (-1 : Int32) q3.2
        else
          bb_X12_evictedAfter_61 (bb_X12_evictedAfter_29  n) l0 l1 l3 l3 q3.2
      else
        bb_X12_evictedAfter_68  l0 l2 m0
def dd_X12_evictedAfter  (l0 : Nat) (l1 : Int32) (m0 : ab_Mm) : Option (Int32 × ab_Mm) :=
  (ab_rc m0 12 l0).bind fun _ =>
  (dd_X12_noInstance l0 l1 m0).bind fun q1 =>
  if q1.1 = 0 then
    (ab_fR q1.2 12 l0 1).bind fun v2 =>
    (ab_fR q1.2 12 l0 28).bind fun v3 =>
    (dd_X12_copies v2 (0 : Int32) v3 (0 : Int32) (116 : Int32) q1.2).bind fun q4 =>
    bb_X12_evictedAfter_29  ab_fu l0 l1 (-1 : Int32) (1 : Int32) q4.2
  else
    some ((0 : Int32), q1.2)
def bb_X12_keeps_40  (l0 : Nat) (m0 : ab_Mm) : Option (Unit × ab_Mm) :=
  (ab_fR m0 12 l0 1).bind fun v1 =>
  (ab_fR m0 12 l0 30).bind fun v2 =>
  (ab_fI m0 12 l0 29).bind fun v3 =>
  (dd_X12_copies v1 (0 : Int32) v2 ((116 : Int32) * v3) (116 : Int32) m0).bind fun q4 =>
  (ab_fI q4.2 12 l0 29).bind fun v5 =>
  (ab_pI q4.2 12 l0 29 (v5 + (1 : Int32))).bind fun m6 =>
  some ((), m6)
def dd_X12_keeps  (l0 : Nat) (m0 : ab_Mm) : Option (Unit × ab_Mm) :=
  (ab_fI m0 12 l0 29).bind fun v1 =>
  if v1 = (10 : Int32) then
    (ab_fI m0 12 l0 29).bind fun v2 =>
    (ab_pI m0 12 l0 29 (v2 - (1 : Int32))).bind fun m3 =>
    (ab_fR m3 12 l0 30).bind fun v4 =>
    (ab_fR m3 12 l0 30).bind fun v5 =>
    (ab_fI m3 12 l0 29).bind fun v6 =>
    (dd_X12_copies v4 (116 : Int32) v5 (0 : Int32) ((116 : Int32) * v6) m3).bind fun q7 =>
    bb_X12_keeps_40  l0 q7.2
  else
    bb_X12_keeps_40  l0 m0
def bb_X12_pass_69  : Nat → Nat → Int32 → Int32 → Int32 → ab_Mm → Option (Int32 × ab_Mm)
  | 0, _, _, _, _, _ => none
  | n + 1, l0, l1, l2, l3, m0 =>
    if l1 ≤ l3 then
      some (l2, m0)
    else
      (ab_rc m0 12 l0).bind fun _ =>
      (dd_X12_hour l0 m0).bind fun q1 =>
      (ab_fI q1.2 12 l0 27).bind fun v2 =>
      (dd_X12_bits v2 q1.2).bind fun q3 =>
      bb_X12_pass_69  n l0 l1 (l2 + q3.1) (l3 + (1 : Int32)) q3.2
def bb_X12_pass_59   (m0 : ab_Mm) : Option (Int32 × ab_Mm) :=
  some ((0 : Int32), m0)
def bb_X12_pass_52  (l0 : Nat) (l1 : Int32) (s0 : Nat) (s1 : Int32) (m0 : ab_Mm) : Option (Int32 × ab_Mm) :=
  (ab_rc m0 12 s0).bind fun _ =>
  (dd_X12_throwsIf s0 s1 (2 : Int32) m0).bind fun q1 =>
  if q1.1 = 0 then
    (ab_rc q1.2 12 l0).bind fun _ =>
    (dd_X12_keeps l0 q1.2).bind fun q2 =>
    bb_X12_pass_69  ab_fu l0 l1 (0 : Int32) (0 : Int32) q2.2
  else
    bb_X12_pass_59   q1.2
def bb_X12_pass_23  (l0 : Nat) (l1 : Int32) (s0 : Nat) (s1 : Int32) (m0 : ab_Mm) : Option (Int32 × ab_Mm) :=
  (ab_rc m0 12 s0).bind fun _ =>
  (dd_X12_throwsIf s0 s1 (1 : Int32) m0).bind fun q1 =>
  if q1.1 = 0 then
    (ab_fR q1.2 12 l0 1).bind fun v2 =>
    (ab_ldJ q1.2 v2 (0 : Int32)).bind fun v3 =>
    if (lg_cmp (v3 + l1.toInt64) (9999 : Int64)) ≤ 0 then
      bb_X12_pass_52  l0 l1 l0 (0 : Int32) q1.2
    else
      bb_X12_pass_52  l0 l1 l0 (1 : Int32) q1.2
  else
    bb_X12_pass_59   q1.2
def dd_X12_pass  (l0 : Nat) (l1 : Int32) (m0 : ab_Mm) : Option (Int32 × ab_Mm) :=
  (ab_pI m0 12 l0 0 (0 : Int32)).bind fun m1 =>
  (dd_X12_within l1.toInt64 (1 : Int64) (500 : Int64) m1).bind fun q2 =>
  if q2.1 = 0 then
    bb_X12_pass_23  l0 l1 l0 (1 : Int32) q2.2
  else
    bb_X12_pass_23  l0 l1 l0 (0 : Int32) q2.2
def bb_X12_launch_58   (m0 : ab_Mm) : Option (Int32 × ab_Mm) :=
  some ((0 : Int32), m0)
def bb_X12_launch_51  (l0 : Nat) (l1 : Int32) (l2 : Int32) (s0 : Nat) (s1 : Int32) (m0 : ab_Mm) : Option (Int32 × ab_Mm) :=
  (ab_rc m0 12 s0).bind fun _ =>
  (dd_X12_throwsIf s0 s1 (2 : Int32) m0).bind fun q1 =>
  if q1.1 = 0 then
    (ab_rc q1.2 12 l0).bind fun _ =>
    (dd_X12_keeps l0 q1.2).bind fun q2 =>
    (ab_rc q2.2 12 l0).bind fun _ =>
    (dd_X12_bestFor l0 l2 q2.2).bind fun q3 =>
    (ab_rc q3.2 12 l0).bind fun _ =>
    (dd_X12_beginsOne l0 l1 l2 q3.1 (-1 : Int32) q3.2).bind fun q4 =>
    some (q4.1, q4.2)
  else
    bb_X12_launch_58   q1.2
def bb_X12_launch_46  (l0 : Nat) (l1 : Int32) (l2 : Int32) (s0 : Nat) (m0 : ab_Mm) : Option (Int32 × ab_Mm) :=
  bb_X12_launch_51  l0 l1 l2 s0 (1 : Int32) m0
def dd_X12_launch  (l0 : Nat) (l1 : Int32) (l2 : Int32) (m0 : ab_Mm) : Option (Int32 × ab_Mm) :=
  (ab_rc m0 12 l0).bind fun _ =>
  (dd_X12_noTenant l0 l1 m0).bind fun q1 =>
  if q1.1 = 0 then
    (ab_rc q1.2 12 l0).bind fun _ =>
    (dd_X12_noType l0 l2 q1.2).bind fun q2 =>
    if q2.1 = 0 then
      (ab_rc q2.2 12 l0).bind fun _ =>
      (dd_X12_isOver l0 l1 q2.2).bind fun q3 =>
      if q3.1 = 0 then
        (ab_rc q3.2 12 l0).bind fun _ =>
        (dd_X12_runningOnes l0 q3.2).bind fun q4 =>
        (dd_X12_bits q4.1 q4.2).bind fun q5 =>
        if q5.1 = (12 : Int32) then
          bb_X12_launch_46  l0 l1 l2 l0 q5.2
        else
          (ab_rc q5.2 12 l0).bind fun _ =>
          (dd_X12_bestFor l0 l2 q5.2).bind fun q6 =>
          if q6.1 = (-1 : Int32) then
            bb_X12_launch_46  l0 l1 l2 l0 q6.2
          else
            bb_X12_launch_51  l0 l1 l2 l0 (0 : Int32) q6.2
      else
        bb_X12_launch_46  l0 l1 l2 l0 q3.2
    else
      bb_X12_launch_58   q2.2
  else
    bb_X12_launch_58   q1.2
def bb_X12_bid_75   (m0 : ab_Mm) : Option (Int32 × ab_Mm) :=
  some ((0 : Int32), m0)
def bb_X12_bid_68  (l0 : Nat) (l1 : Int32) (l2 : Int32) (l3 : Int32) (s0 : Nat) (s1 : Int32) (m0 : ab_Mm) : Option (Int32 × ab_Mm) :=
  (ab_rc m0 12 s0).bind fun _ =>
  (dd_X12_throwsIf s0 s1 (3 : Int32) m0).bind fun q1 =>
  if q1.1 = 0 then
    (ab_rc q1.2 12 l0).bind fun _ =>
    (dd_X12_keeps l0 q1.2).bind fun q2 =>
    (ab_fR q2.2 12 l0 1).bind fun v3 =>
    (ab_ldJ q2.2 v3 (1 : Int32)).bind fun v4 =>
    (ab_fR q2.2 12 l0 1).bind fun v5 =>
    (ab_stJ q2.2 v5 ((86 : Int32) + ((3 : Int32) * v4.toInt32)) l1.toInt64).bind fun m6 =>
    (ab_fR m6 12 l0 1).bind fun v7 =>
    (ab_stJ m6 v7 (((86 : Int32) + ((3 : Int32) * v4.toInt32)) + (1 : Int32)) l2.toInt64).bind fun m8 =>
    (ab_fR m8 12 l0 1).bind fun v9 =>
    (ab_stJ m8 v9 (((86 : Int32) + ((3 : Int32) * v4.toInt32)) + (2 : Int32)) l3.toInt64).bind fun m10 =>
    (ab_fR m10 12 l0 1).bind fun v11 =>
    (ab_ldJ m10 v11 (1 : Int32)).bind fun v12 =>
    (ab_stJ m10 v11 (1 : Int32) (v12 + (1 : Int64))).bind fun m13 =>
    (ab_fR m13 12 l0 1).bind fun v14 =>
    (ab_ldJ m13 v14 (1 : Int32)).bind fun v15 =>
    some (v15.toInt32, m13)
  else
    bb_X12_bid_75   q1.2
def bb_X12_bid_63  (l0 : Nat) (l1 : Int32) (l2 : Int32) (l3 : Int32) (s0 : Nat) (m0 : ab_Mm) : Option (Int32 × ab_Mm) :=
  bb_X12_bid_68  l0 l1 l2 l3 s0 (1 : Int32) m0
def bb_X12_bid_34  (l0 : Nat) (l1 : Int32) (l2 : Int32) (l3 : Int32) (s0 : Nat) (s1 : Int32) (m0 : ab_Mm) : Option (Int32 × ab_Mm) :=
  (ab_rc m0 12 s0).bind fun _ =>
  (dd_X12_throwsIf s0 s1 (2 : Int32) m0).bind fun q1 =>
  if q1.1 = 0 then
    (ab_rc q1.2 12 l0).bind fun _ =>
    (dd_X12_isOver l0 l1 q1.2).bind fun q2 =>
    if q2.1 = 0 then
      (ab_fR q2.2 12 l0 1).bind fun v3 =>
      (ab_ldJ q2.2 v3 (1 : Int32)).bind fun v4 =>
      if (lg_cmp v4 (10 : Int64)) = 0 then
        bb_X12_bid_63  l0 l1 l2 l3 l0 q2.2
      else
        bb_X12_bid_68  l0 l1 l2 l3 l0 (0 : Int32) q2.2
    else
      bb_X12_bid_63  l0 l1 l2 l3 l0 q2.2
  else
    bb_X12_bid_75   q1.2
def dd_X12_bid  (l0 : Nat) (l1 : Int32) (l2 : Int32) (l3 : Int32) (m0 : ab_Mm) : Option (Int32 × ab_Mm) :=
  (ab_rc m0 12 l0).bind fun _ =>
  (dd_X12_noTenant l0 l1 m0).bind fun q1 =>
  if q1.1 = 0 then
    (ab_rc q1.2 12 l0).bind fun _ =>
    (dd_X12_noType l0 l2 q1.2).bind fun q2 =>
    if q2.1 = 0 then
      (dd_X12_within l3.toInt64 (1 : Int64) (9999 : Int64) q2.2).bind fun q3 =>
      if q3.1 = 0 then
        bb_X12_bid_34  l0 l1 l2 l3 l0 (1 : Int32) q3.2
      else
        bb_X12_bid_34  l0 l1 l2 l3 l0 (0 : Int32) q3.2
    else
      bb_X12_bid_75   q2.2
  else
    bb_X12_bid_75   q1.2
def bb_X12_withdraw_55 (r26 : Nat → Int32 → Int32 → Int32 → ab_Mm → Option (Int32 × ab_Mm)) (l0 : Nat) (l1 : Int32) (l2 : Int32) (l3 : Int32) (m0 : ab_Mm) : Option (Int32 × ab_Mm) :=
  r26 l0 l1 l2 (l3 + (-1 : Int32)) m0
def bb_X12_withdraw_26  : Nat → Nat → Int32 → Int32 → Int32 → ab_Mm → Option (Int32 × ab_Mm)
  | 0, _, _, _, _, _ => none
  | n + 1, l0, l1, l2, l3, m0 =>
    if l3 < 0 then
      some (l2, m0)
    else
      (ab_fR m0 12 l0 1).bind fun v1 =>
      (ab_ldJ m0 v1 ((86 : Int32) + ((3 : Int32) * l3))).bind fun v2 =>
      if (lg_cmp v2 l1.toInt64) = 0 then
        (ab_rc m0 12 l0).bind fun _ =>
        (dd_X12_dropsRequest l0 l3 m0).bind fun q3 =>
        bb_X12_withdraw_55 (bb_X12_withdraw_26  n) l0 l1 (l2 + (1 : Int32)) l3 q3.2
      else
        bb_X12_withdraw_55 (bb_X12_withdraw_26  n) l0 l1 l2 l3 m0
def dd_X12_withdraw  (l0 : Nat) (l1 : Int32) (m0 : ab_Mm) : Option (Int32 × ab_Mm) :=
  (ab_rc m0 12 l0).bind fun _ =>
  (dd_X12_noTenant l0 l1 m0).bind fun q1 =>
  if q1.1 = 0 then
    (ab_rc q1.2 12 l0).bind fun _ =>
    (dd_X12_keeps l0 q1.2).bind fun q2 =>
    (ab_fR q2.2 12 l0 1).bind fun v3 =>
    (ab_ldJ q2.2 v3 (1 : Int32)).bind fun v4 =>
    bb_X12_withdraw_26  ab_fu l0 l1 (0 : Int32) (v4.toInt32 - (1 : Int32)) q2.2
  else
    some ((0 : Int32), q1.2)
def dd_X12_stop  (l0 : Nat) (l1 : Int32) (m0 : ab_Mm) : Option (Int32 × ab_Mm) :=
  (ab_rc m0 12 l0).bind fun _ =>
  (dd_X12_noInstance l0 l1 m0).bind fun q1 =>
  if q1.1 = 0 then
    (ab_rc q1.2 12 l0).bind fun _ =>
    (dd_X12_keeps l0 q1.2).bind fun q2 =>
    (ab_fR q2.2 12 l0 1).bind fun v3 =>
    (dd_X12_of l1 (0 : Int32) q2.2).bind fun q4 =>
    (ab_stJ q4.2 v3 q4.1 (-1 : Int64)).bind fun m5 =>
    (ab_rc m5 12 l0).bind fun _ =>
    (dd_X12_its l0 l1 (2 : Int32) m5).bind fun q6 =>
    some (q6.1, q6.2)
  else
    some ((0 : Int32), q1.2)
def bb_X12_evict_41   (m0 : ab_Mm) : Option (Int32 × ab_Mm) :=
  some ((0 : Int32), m0)
def bb_X12_evict_34  (l0 : Nat) (l1 : Int32) (s0 : Nat) (s1 : Int32) (m0 : ab_Mm) : Option (Int32 × ab_Mm) :=
  (ab_rc m0 12 s0).bind fun _ =>
  (dd_X12_throwsIf s0 s1 (2 : Int32) m0).bind fun q1 =>
  if q1.1 = 0 then
    (ab_rc q1.2 12 l0).bind fun _ =>
    (dd_X12_keeps l0 q1.2).bind fun q2 =>
    (ab_fR q2.2 12 l0 1).bind fun v3 =>
    (dd_X12_of l1 (4 : Int32) q2.2).bind fun q4 =>
    (ab_fR q4.2 12 l0 1).bind fun v5 =>
    (ab_ldJ q4.2 v5 (0 : Int32)).bind fun v6 =>
    (ab_fR q4.2 12 l0 2).bind fun v7 =>
    (ab_ld q4.2 1 v7 (5 : Int32)).bind fun v8 =>
    (ab_stJ q4.2 v3 q4.1 (v6 + v8.toInt64)).bind fun m9 =>
    (ab_rc m9 12 l0).bind fun _ =>
    (dd_X12_its l0 l1 (4 : Int32) m9).bind fun q10 =>
    some (q10.1, q10.2)
  else
    bb_X12_evict_41   q1.2
def bb_X12_evict_29  (l0 : Nat) (l1 : Int32) (s0 : Nat) (m0 : ab_Mm) : Option (Int32 × ab_Mm) :=
  bb_X12_evict_34  l0 l1 s0 (1 : Int32) m0
def dd_X12_evict  (l0 : Nat) (l1 : Int32) (m0 : ab_Mm) : Option (Int32 × ab_Mm) :=
  (ab_rc m0 12 l0).bind fun _ =>
  (dd_X12_noInstance l0 l1 m0).bind fun q1 =>
  if q1.1 = 0 then
    (ab_rc q1.2 12 l0).bind fun _ =>
    (dd_X12_its l0 l1 (3 : Int32) q1.2).bind fun q2 =>
    if q2.1 = (-1 : Int32) then
      bb_X12_evict_29  l0 l1 l0 q2.2
    else
      (ab_rc q2.2 12 l0).bind fun _ =>
      (dd_X12_its l0 l1 (4 : Int32) q2.2).bind fun q3 =>
      if q3.1 = (-1 : Int32) then
        bb_X12_evict_34  l0 l1 l0 (0 : Int32) q3.2
      else
        bb_X12_evict_29  l0 l1 l0 q3.2
  else
    bb_X12_evict_41   q1.2
def dd_X12_moves  (l0 : Nat) (l1 : Int32) (l2 : Int32) (m0 : ab_Mm) : Option (Int32 × ab_Mm) :=
  (ab_rc m0 12 l0).bind fun _ =>
  (dd_X12_costOf l0 l1 m0).bind fun q1 =>
  (ab_fR q1.2 12 l0 1).bind fun v2 =>
  (ab_rc q1.2 12 l0).bind fun _ =>
  (dd_X12_its l0 l1 (0 : Int32) q1.2).bind fun q3 =>
  (ab_ldJ q3.2 v2 ((8 : Int32) + q3.1)).bind fun v4 =>
  (ab_stJ q3.2 v2 ((8 : Int32) + q3.1) (v4 + q1.1.toInt64)).bind fun m5 =>
  (ab_fR m5 12 l0 1).bind fun v6 =>
  (dd_X12_of l1 (2 : Int32) m5).bind fun q7 =>
  (ab_stJ q7.2 v6 q7.1 l2.toInt64).bind fun m8 =>
  some (q1.1, m8)
def bb_X12_migrate_52   (m0 : ab_Mm) : Option (Int32 × ab_Mm) :=
  some ((0 : Int32), m0)
def bb_X12_migrate_45  (l0 : Nat) (l1 : Int32) (l2 : Int32) (s0 : Nat) (s1 : Int32) (m0 : ab_Mm) : Option (Int32 × ab_Mm) :=
  (ab_rc m0 12 s0).bind fun _ =>
  (dd_X12_throwsIf s0 s1 (2 : Int32) m0).bind fun q1 =>
  if q1.1 = 0 then
    (ab_rc q1.2 12 l0).bind fun _ =>
    (dd_X12_keeps l0 q1.2).bind fun q2 =>
    (ab_rc q2.2 12 l0).bind fun _ =>
    (dd_X12_moves l0 l1 l2 q2.2).bind fun q3 =>
    some (q3.1, q3.2)
  else
    bb_X12_migrate_52   q1.2
def bb_X12_migrate_40  (l0 : Nat) (l1 : Int32) (l2 : Int32) (s0 : Nat) (m0 : ab_Mm) : Option (Int32 × ab_Mm) :=
  bb_X12_migrate_45  l0 l1 l2 s0 (1 : Int32) m0
def dd_X12_migrate  (l0 : Nat) (l1 : Int32) (l2 : Int32) (m0 : ab_Mm) : Option (Int32 × ab_Mm) :=
  (ab_rc m0 12 l0).bind fun _ =>
  (dd_X12_noInstance l0 l1 m0).bind fun q1 =>
  if q1.1 = 0 then
    (ab_rc q1.2 12 l0).bind fun _ =>
    (dd_X12_noHost l0 l2 q1.2).bind fun q2 =>
    if q2.1 = 0 then
      (ab_rc q2.2 12 l0).bind fun _ =>
      (dd_X12_isOn l0 l1 l2 q2.2).bind fun q3 =>
      if q3.1 = 0 then
        (ab_rc q3.2 12 l0).bind fun _ =>
        (dd_X12_its l0 l1 (1 : Int32) q3.2).bind fun q4 =>
        (ab_rc q4.2 12 l0).bind fun _ =>
        (dd_X12_fits l0 q4.1 l2 q4.2).bind fun q5 =>
        if q5.1 = 0 then
          bb_X12_migrate_40  l0 l1 l2 l0 q5.2
        else
          bb_X12_migrate_45  l0 l1 l2 l0 (0 : Int32) q5.2
      else
        bb_X12_migrate_40  l0 l1 l2 l0 q3.2
    else
      bb_X12_migrate_52   q2.2
  else
    bb_X12_migrate_52   q1.2
def bb_X12_drain_85 (r59 : Nat → Int32 → Int32 → ab_Mm → Option (Int32 × ab_Mm)) (l0 : Nat) (l2 : Int32) (l3 : Int32) (m0 : ab_Mm) : Option (Int32 × ab_Mm) :=
  r59 l0 l2 (l3 + (1 : Int32)) m0
def bb_X12_drain_59  : Nat → Nat → Int32 → Int32 → ab_Mm → Option (Int32 × ab_Mm)
  | 0, _, _, _, _ => none
  | n + 1, l0, l2, l3, m0 =>
    if (12 : Int32) ≤ l3 then
      (dd_X12_bits l2 m0).bind fun q1 =>
      some (q1.1, q1.2)
    else
      (dd_X12_has l2 l3 m0).bind fun q2 =>
      if q2.1 = 0 then
        bb_X12_drain_85 (bb_X12_drain_59  n) l0 l2 l3 q2.2
      else
        (ab_fR q2.2 12 l0 26).bind fun v3 =>
        (ab_ld q2.2 1 v3 l3).bind fun v4 =>
        (ab_rc q2.2 12 l0).bind fun _ =>
        (dd_X12_moves l0 l3 v4 q2.2).bind fun q5 =>
        bb_X12_drain_85 (bb_X12_drain_59  n) l0 l2 l3 q5.2
def bb_X12_drain_44  (l0 : Nat) (l2 : Int32) (s0 : Nat) (s1 : Int32) (m0 : ab_Mm) : Option (Int32 × ab_Mm) :=
  (ab_rc m0 12 s0).bind fun _ =>
  (dd_X12_throwsIf s0 s1 (2 : Int32) m0).bind fun q1 =>
  if q1.1 = 0 then
    (ab_rc q1.2 12 l0).bind fun _ =>
    (dd_X12_keeps l0 q1.2).bind fun q2 =>
    bb_X12_drain_59  ab_fu l0 l2 (0 : Int32) q2.2
  else
    some ((0 : Int32), q1.2)
def bb_X12_drain_39  (l0 : Nat) (l2 : Int32) (s0 : Nat) (m0 : ab_Mm) : Option (Int32 × ab_Mm) :=
  bb_X12_drain_44  l0 l2 s0 (1 : Int32) m0
def dd_X12_drain  (l0 : Nat) (l1 : Int32) (m0 : ab_Mm) : Option (Int32 × ab_Mm) :=
  (ab_rc m0 12 l0).bind fun _ =>
  (dd_X12_noHost l0 l1 m0).bind fun q1 =>
  if q1.1 = 0 then
    (ab_rc q1.2 12 l0).bind fun _ =>
    (dd_X12_onHost l0 l1 q1.2).bind fun q2 =>
    if q2.1 = 0 then
      bb_X12_drain_39  l0 q2.1 l0 q2.2
    else
      (dd_X12_bits q2.1 q2.2).bind fun q3 =>
      if (5 : Int32) < q3.1 then
        bb_X12_drain_39  l0 q2.1 l0 q3.2
      else
        (ab_rc q3.2 12 l0).bind fun _ =>
        (dd_X12_drains 30 l0 l1 q2.1 (0 : Int32) q3.2).bind fun q4 =>
        if q4.1 = 0 then
          bb_X12_drain_39  l0 q2.1 l0 q4.2
        else
          bb_X12_drain_44  l0 q2.1 l0 (0 : Int32) q4.2
  else
    some ((0 : Int32), q1.2)
def dd_X12_undo  (l0 : Nat) (m0 : ab_Mm) : Option (Int32 × ab_Mm) :=
  (ab_pI m0 12 l0 0 (0 : Int32)).bind fun m1 =>
  (ab_fI m1 12 l0 29).bind fun v2 =>
  if v2 = 0 then
    some ((-1 : Int32), m1)
  else
    (ab_fI m1 12 l0 29).bind fun v3 =>
    (ab_pI m1 12 l0 29 (v3 - (1 : Int32))).bind fun m4 =>
    (ab_fR m4 12 l0 30).bind fun v5 =>
    (ab_fI m4 12 l0 29).bind fun v6 =>
    (ab_fR m4 12 l0 1).bind fun v7 =>
    (dd_X12_copies v5 ((116 : Int32) * v6) v7 (0 : Int32) (116 : Int32) m4).bind fun q8 =>
    (ab_fI q8.2 12 l0 29).bind fun v9 =>
    some (v9, q8.2)
def dd_X12_noSlot  (l0 : Nat) (l1 : Int32) (m0 : ab_Mm) : Option (Int32 × ab_Mm) :=
  (ab_rc m0 12 l0).bind fun _ =>
  (dd_X12_no l0 l1.toInt64 (2 : Int32) m0).bind fun q1 =>
  if ¬ (q1.1 &&& 1 = q1.1) then none else
  some (q1.1, q1.2)
def dd_X12_saveSnapshot  (l0 : Nat) (l1 : Int32) (m0 : ab_Mm) : Option (Int32 × ab_Mm) :=
  (ab_rc m0 12 l0).bind fun _ =>
  (dd_X12_noSlot l0 l1 m0).bind fun q1 =>
  if q1.1 = 0 then
    (ab_fR q1.2 12 l0 32).bind fun v2 =>
    (ab_ld q1.2 3 v2 l1).bind fun v3 =>
    (ab_fR q1.2 12 l0 1).bind fun v4 =>
    (ab_fR q1.2 12 l0 31).bind fun v5 =>
    (dd_X12_copies v4 (0 : Int32) v5 ((116 : Int32) * l1) (116 : Int32) q1.2).bind fun q6 =>
    (ab_fR q6.2 12 l0 32).bind fun v7 =>
    (ab_st q6.2 3 v7 l1 ((1 : Int32) &&& 1)).bind fun m8 =>
    if ¬ (v3 &&& 1 = v3) then none else
    some (v3, m8)
  else
    some ((0 : Int32), q1.2)
def bb_X12_restoreSnapshot_30   (m0 : ab_Mm) : Option (Int32 × ab_Mm) :=
  some ((0 : Int32), m0)
def bb_X12_restoreSnapshot_23  (l0 : Nat) (l1 : Int32) (s0 : Nat) (s1 : Int32) (m0 : ab_Mm) : Option (Int32 × ab_Mm) :=
  (ab_rc m0 12 s0).bind fun _ =>
  (dd_X12_throwsIf s0 s1 (2 : Int32) m0).bind fun q1 =>
  if q1.1 = 0 then
    (ab_fR q1.2 12 l0 31).bind fun v2 =>
    (ab_fR q1.2 12 l0 1).bind fun v3 =>
    (dd_X12_copies v2 ((116 : Int32) * l1) v3 (0 : Int32) (116 : Int32) q1.2).bind fun q4 =>
    (ab_pI q4.2 12 l0 29 (0 : Int32)).bind fun m5 =>
    (ab_fR m5 12 l0 1).bind fun v6 =>
    (ab_ldJ m5 v6 (0 : Int32)).bind fun v7 =>
    some (v7.toInt32, m5)
  else
    bb_X12_restoreSnapshot_30   q1.2
def dd_X12_restoreSnapshot  (l0 : Nat) (l1 : Int32) (m0 : ab_Mm) : Option (Int32 × ab_Mm) :=
  (ab_rc m0 12 l0).bind fun _ =>
  (dd_X12_noSlot l0 l1 m0).bind fun q1 =>
  if q1.1 = 0 then
    (ab_fR q1.2 12 l0 32).bind fun v2 =>
    (ab_ld q1.2 3 v2 l1).bind fun v3 =>
    if v3 = 0 then
      bb_X12_restoreSnapshot_23  l0 l1 l0 (1 : Int32) q1.2
    else
      bb_X12_restoreSnapshot_23  l0 l1 l0 (0 : Int32) q1.2
  else
    bb_X12_restoreSnapshot_30   q1.2
def dd_L_parse  (l0 : Nat) (l1 : Int32) (l2 : Nat) (m0 : ab_Mm) : Option (Int32 × ab_Mm) :=
  (ab_rc m0 11 l0).bind fun _ =>
  (dd_X11_parse l0 l1 m0).bind fun q1 =>
  match q1.1 with
  | .inl v1 =>
    (ab_stJ q1.2 l2 (0 : Int32) v1.toInt64).bind fun m2 =>
    some ((0 : Int32), m2)
  | .inr v1 =>
    if v1 = 2 then
      some ((1 : Int32), q1.2)
    else none
def dd_L_free  (l0 : Nat) (l1 : Int32) (l2 : Int32) (l3 : Nat) (m0 : ab_Mm) : Option (Int32 × ab_Mm) :=
  (ab_rc m0 11 l0).bind fun _ =>
  (dd_X11_free l0 l1 l2 m0).bind fun q1 =>
  match q1.1 with
  | .inl v1 =>
    (ab_stJ q1.2 l3 (0 : Int32) v1.toInt64).bind fun m2 =>
    some ((0 : Int32), m2)
  | .inr v1 =>
    if v1 = 0 then
      some ((1 : Int32), q1.2)
    else none
def dd_L_instancesOn  (l0 : Nat) (l1 : Int32) (l2 : Nat) (m0 : ab_Mm) : Option (Int32 × ab_Mm) :=
  (ab_rc m0 11 l0).bind fun _ =>
  (dd_X11_instancesOn l0 l1 m0).bind fun q1 =>
  match q1.1 with
  | .inl v1 =>
    (ab_stJ q1.2 l2 (0 : Int32) v1.toInt64).bind fun m2 =>
    some ((0 : Int32), m2)
  | .inr v1 =>
    if v1 = 0 then
      some ((1 : Int32), q1.2)
    else none
def dd_L_spotPrice  (l0 : Nat) (l1 : Int32) (l2 : Nat) (m0 : ab_Mm) : Option (Int32 × ab_Mm) :=
  (ab_rc m0 11 l0).bind fun _ =>
  (dd_X11_spotPrice l0 l1 m0).bind fun q1 =>
  match q1.1 with
  | .inl v1 =>
    (ab_stJ q1.2 l2 (0 : Int32) v1.toInt64).bind fun m2 =>
    some ((0 : Int32), m2)
  | .inr v1 =>
    if v1 = 0 then
      some ((1 : Int32), q1.2)
    else none
def dd_L_bestHost  (l0 : Nat) (l1 : Int32) (l2 : Nat) (m0 : ab_Mm) : Option (Int32 × ab_Mm) :=
  (ab_rc m0 11 l0).bind fun _ =>
  (dd_X11_bestHost l0 l1 m0).bind fun q1 =>
  match q1.1 with
  | .inl v1 =>
    (ab_stJ q1.2 l2 (0 : Int32) v1.toInt64).bind fun m2 =>
    some ((0 : Int32), m2)
  | .inr v1 =>
    if v1 = 0 then
      some ((1 : Int32), q1.2)
    else none
def dd_L_room  (l0 : Nat) (l1 : Int32) (l2 : Nat) (m0 : ab_Mm) : Option (Int32 × ab_Mm) :=
  (ab_rc m0 11 l0).bind fun _ =>
  (dd_X11_room l0 l1 m0).bind fun q1 =>
  match q1.1 with
  | .inl v1 =>
    (ab_stJ q1.2 l2 (0 : Int32) v1.toInt64).bind fun m2 =>
    some ((0 : Int32), m2)
  | .inr v1 =>
    if v1 = 0 then
      some ((1 : Int32), q1.2)
    else none
def dd_L_typeOf  (l0 : Nat) (l1 : Int32) (l2 : Nat) (m0 : ab_Mm) : Option (Int32 × ab_Mm) :=
  (ab_rc m0 11 l0).bind fun _ =>
  (dd_X11_typeOf l0 l1 m0).bind fun q1 =>
  match q1.1 with
  | .inl v1 =>
    (ab_stJ q1.2 l2 (0 : Int32) v1.toInt64).bind fun m2 =>
    some ((0 : Int32), m2)
  | .inr v1 =>
    if v1 = 0 then
      some ((1 : Int32), q1.2)
    else none
def dd_L_tenantOf  (l0 : Nat) (l1 : Int32) (l2 : Nat) (m0 : ab_Mm) : Option (Int32 × ab_Mm) :=
  (ab_rc m0 11 l0).bind fun _ =>
  (dd_X11_tenantOf l0 l1 m0).bind fun q1 =>
  match q1.1 with
  | .inl v1 =>
    (ab_stJ q1.2 l2 (0 : Int32) v1.toInt64).bind fun m2 =>
    some ((0 : Int32), m2)
  | .inr v1 =>
    if v1 = 0 then
      some ((1 : Int32), q1.2)
    else none
def dd_L_hostOf  (l0 : Nat) (l1 : Int32) (l2 : Nat) (m0 : ab_Mm) : Option (Int32 × ab_Mm) :=
  (ab_rc m0 11 l0).bind fun _ =>
  (dd_X11_hostOf l0 l1 m0).bind fun q1 =>
  match q1.1 with
  | .inl v1 =>
    (ab_stJ q1.2 l2 (0 : Int32) v1.toInt64).bind fun m2 =>
    some ((0 : Int32), m2)
  | .inr v1 =>
    if v1 = 0 then
      some ((1 : Int32), q1.2)
    else none
def dd_L_bidOf  (l0 : Nat) (l1 : Int32) (l2 : Nat) (m0 : ab_Mm) : Option (Int32 × ab_Mm) :=
  (ab_rc m0 11 l0).bind fun _ =>
  (dd_X11_bidOf l0 l1 m0).bind fun q1 =>
  match q1.1 with
  | .inl v1 =>
    (ab_stJ q1.2 l2 (0 : Int32) v1.toInt64).bind fun m2 =>
    some ((0 : Int32), m2)
  | .inr v1 =>
    if v1 = 0 then
      some ((1 : Int32), q1.2)
    else none
def dd_L_noticeOf  (l0 : Nat) (l1 : Int32) (l2 : Nat) (m0 : ab_Mm) : Option (Int32 × ab_Mm) :=
  (ab_rc m0 11 l0).bind fun _ =>
  (dd_X11_noticeOf l0 l1 m0).bind fun q1 =>
  match q1.1 with
  | .inl v1 =>
    (ab_stJ q1.2 l2 (0 : Int32) v1.toInt64).bind fun m2 =>
    some ((0 : Int32), m2)
  | .inr v1 =>
    if v1 = 0 then
      some ((1 : Int32), q1.2)
    else none
def dd_L_spent  (l0 : Nat) (l1 : Int32) (l2 : Nat) (m0 : ab_Mm) : Option (Int32 × ab_Mm) :=
  (ab_rc m0 11 l0).bind fun _ =>
  (dd_X11_spent l0 l1 m0).bind fun q1 =>
  match q1.1 with
  | .inl v1 =>
    (ab_stJ q1.2 l2 (0 : Int32) v1).bind fun m2 =>
    some ((0 : Int32), m2)
  | .inr v1 =>
    if v1 = 0 then
      some ((1 : Int32), q1.2)
    else none
def dd_L_hourlyBill  (l0 : Nat) (l1 : Int32) (l2 : Nat) (m0 : ab_Mm) : Option (Int32 × ab_Mm) :=
  (ab_rc m0 11 l0).bind fun _ =>
  (dd_X11_hourlyBill l0 l1 m0).bind fun q1 =>
  match q1.1 with
  | .inl v1 =>
    (ab_stJ q1.2 l2 (0 : Int32) v1.toInt64).bind fun m2 =>
    some ((0 : Int32), m2)
  | .inr v1 =>
    if v1 = 0 then
      some ((1 : Int32), q1.2)
    else none
def dd_L_covered  (l0 : Nat) (l1 : Int32) (l2 : Int32) (l3 : Nat) (m0 : ab_Mm) : Option (Int32 × ab_Mm) :=
  (ab_rc m0 11 l0).bind fun _ =>
  (dd_X11_covered l0 l1 l2 m0).bind fun q1 =>
  match q1.1 with
  | .inl v1 =>
    (ab_stJ q1.2 l3 (0 : Int32) v1.toInt64).bind fun m2 =>
    some ((0 : Int32), m2)
  | .inr v1 =>
    if v1 = 0 then
      some ((1 : Int32), q1.2)
    else none
def bb_L_isOverBudget_15  (s0 : Nat) (s1 : Int32) (s2 : Int64) (m0 : ab_Mm) : Option (Int32 × ab_Mm) :=
  (ab_stJ m0 s0 s1 s2).bind fun m1 =>
  some ((0 : Int32), m1)
def dd_L_isOverBudget  (l0 : Nat) (l1 : Int32) (l2 : Nat) (m0 : ab_Mm) : Option (Int32 × ab_Mm) :=
  (ab_rc m0 11 l0).bind fun _ =>
  (dd_X11_isOverBudget l0 l1 m0).bind fun q1 =>
  match q1.1 with
  | .inl v1 =>
    if v1 = 0 then
      bb_L_isOverBudget_15  l2 (0 : Int32) (0 : Int64) q1.2
    else
      bb_L_isOverBudget_15  l2 (0 : Int32) (1 : Int64) q1.2
  | .inr v1 =>
    if v1 = 0 then
      some ((1 : Int32), q1.2)
    else none
def bb_L_pays_15  (s0 : Nat) (s1 : Int32) (s2 : Int64) (m0 : ab_Mm) : Option (Int32 × ab_Mm) :=
  (ab_stJ m0 s0 s1 s2).bind fun m1 =>
  some ((0 : Int32), m1)
def dd_L_pays  (l0 : Nat) (l1 : Int32) (l2 : Nat) (m0 : ab_Mm) : Option (Int32 × ab_Mm) :=
  (ab_rc m0 11 l0).bind fun _ =>
  (dd_X11_pays l0 l1 m0).bind fun q1 =>
  match q1.1 with
  | .inl v1 =>
    if v1 = 0 then
      bb_L_pays_15  l2 (0 : Int32) (0 : Int64) q1.2
    else
      bb_L_pays_15  l2 (0 : Int32) (1 : Int64) q1.2
  | .inr v1 =>
    if v1 = 0 then
      some ((1 : Int32), q1.2)
    else none
def dd_L_cheapestEviction  (l0 : Nat) (l1 : Int32) (l2 : Int32) (l3 : Nat) (m0 : ab_Mm) : Option (Int32 × ab_Mm) :=
  (ab_rc m0 11 l0).bind fun _ =>
  (dd_X11_cheapestEviction l0 l1 l2 m0).bind fun q1 =>
  match q1.1 with
  | .inl v1 =>
    (ab_stJ q1.2 l3 (0 : Int32) v1.toInt64).bind fun m2 =>
    some ((0 : Int32), m2)
  | .inr v1 =>
    if v1 = 0 then
      some ((1 : Int32), q1.2)
    else none
def dd_L_migrationCost  (l0 : Nat) (l1 : Int32) (l2 : Nat) (m0 : ab_Mm) : Option (Int32 × ab_Mm) :=
  (ab_rc m0 11 l0).bind fun _ =>
  (dd_X11_migrationCost l0 l1 m0).bind fun q1 =>
  match q1.1 with
  | .inl v1 =>
    (ab_stJ q1.2 l2 (0 : Int32) v1.toInt64).bind fun m2 =>
    some ((0 : Int32), m2)
  | .inr v1 =>
    if v1 = 0 then
      some ((1 : Int32), q1.2)
    else none
def dd_L_drainTo  (l0 : Nat) (l1 : Int32) (l2 : Int32) (l3 : Nat) (m0 : ab_Mm) : Option (Int32 × ab_Mm) :=
  (ab_rc m0 11 l0).bind fun _ =>
  (dd_X11_drainTo l0 l1 l2 m0).bind fun q1 =>
  match q1.1 with
  | .inl v1 =>
    (ab_stJ q1.2 l3 (0 : Int32) v1.toInt64).bind fun m2 =>
    some ((0 : Int32), m2)
  | .inr v1 =>
    if v1 = 0 then
      some ((1 : Int32), q1.2)
    else if v1 = 1 then
      some ((2 : Int32), q1.2)
    else none
def dd_L_priceAfter  (l0 : Nat) (l1 : Int32) (l2 : Int32) (l3 : Nat) (m0 : ab_Mm) : Option (Int32 × ab_Mm) :=
  (ab_rc m0 11 l0).bind fun _ =>
  (dd_X11_priceAfter l0 l1 l2 m0).bind fun q1 =>
  match q1.1 with
  | .inl v1 =>
    (ab_stJ q1.2 l3 (0 : Int32) v1.toInt64).bind fun m2 =>
    some ((0 : Int32), m2)
  | .inr v1 =>
    if v1 = 0 then
      some ((1 : Int32), q1.2)
    else if v1 = 2 then
      some ((2 : Int32), q1.2)
    else none
def dd_L_evictedAfter  (l0 : Nat) (l1 : Int32) (l2 : Nat) (m0 : ab_Mm) : Option (Int32 × ab_Mm) :=
  (ab_rc m0 11 l0).bind fun _ =>
  (dd_X11_evictedAfter l0 l1 m0).bind fun q1 =>
  match q1.1 with
  | .inl v1 =>
    (ab_stJ q1.2 l2 (0 : Int32) v1.toInt64).bind fun m2 =>
    some ((0 : Int32), m2)
  | .inr v1 =>
    if v1 = 0 then
      some ((1 : Int32), q1.2)
    else none
def dd_L_pass  (l0 : Nat) (l1 : Int32) (l2 : Nat) (m0 : ab_Mm) : Option (Int32 × ab_Mm) :=
  (ab_rc m0 11 l0).bind fun _ =>
  (dd_X11_pass l0 l1 m0).bind fun q1 =>
  match q1.1 with
  | .inl v1 =>
    (ab_stJ q1.2 l2 (0 : Int32) v1.toInt64).bind fun m2 =>
    some ((0 : Int32), m2)
  | .inr v1 =>
    if v1 = 2 then
      some ((1 : Int32), q1.2)
    else if v1 = 1 then
      some ((2 : Int32), q1.2)
    else none
def dd_L_launch  (l0 : Nat) (l1 : Int32) (l2 : Int32) (l3 : Nat) (m0 : ab_Mm) : Option (Int32 × ab_Mm) :=
  (ab_rc m0 11 l0).bind fun _ =>
  (dd_X11_launch l0 l1 l2 m0).bind fun q1 =>
  match q1.1 with
  | .inl v1 =>
    (ab_stJ q1.2 l3 (0 : Int32) v1.toInt64).bind fun m2 =>
    some ((0 : Int32), m2)
  | .inr v1 =>
    if v1 = 0 then
      some ((1 : Int32), q1.2)
    else if v1 = 1 then
      some ((2 : Int32), q1.2)
    else none
def dd_L_bid  (l0 : Nat) (l1 : Int32) (l2 : Int32) (l3 : Int32) (l4 : Nat) (m0 : ab_Mm) : Option (Int32 × ab_Mm) :=
  (ab_rc m0 11 l0).bind fun _ =>
  (dd_X11_bid l0 l1 l2 l3 m0).bind fun q1 =>
  match q1.1 with
  | .inl v1 =>
    (ab_stJ q1.2 l4 (0 : Int32) v1.toInt64).bind fun m2 =>
    some ((0 : Int32), m2)
  | .inr v1 =>
    if v1 = 0 then
      some ((1 : Int32), q1.2)
    else if v1 = 2 then
      some ((2 : Int32), q1.2)
    else if v1 = 1 then
      some ((3 : Int32), q1.2)
    else none
def dd_L_withdraw  (l0 : Nat) (l1 : Int32) (l2 : Nat) (m0 : ab_Mm) : Option (Int32 × ab_Mm) :=
  (ab_rc m0 11 l0).bind fun _ =>
  (dd_X11_withdraw l0 l1 m0).bind fun q1 =>
  match q1.1 with
  | .inl v1 =>
    (ab_stJ q1.2 l2 (0 : Int32) v1.toInt64).bind fun m2 =>
    some ((0 : Int32), m2)
  | .inr v1 =>
    if v1 = 0 then
      some ((1 : Int32), q1.2)
    else none
def dd_L_stop  (l0 : Nat) (l1 : Int32) (l2 : Nat) (m0 : ab_Mm) : Option (Int32 × ab_Mm) :=
  (ab_rc m0 11 l0).bind fun _ =>
  (dd_X11_stop l0 l1 m0).bind fun q1 =>
  match q1.1 with
  | .inl v1 =>
    (ab_stJ q1.2 l2 (0 : Int32) v1.toInt64).bind fun m2 =>
    some ((0 : Int32), m2)
  | .inr v1 =>
    if v1 = 0 then
      some ((1 : Int32), q1.2)
    else none
def dd_L_evict  (l0 : Nat) (l1 : Int32) (l2 : Nat) (m0 : ab_Mm) : Option (Int32 × ab_Mm) :=
  (ab_rc m0 11 l0).bind fun _ =>
  (dd_X11_evict l0 l1 m0).bind fun q1 =>
  match q1.1 with
  | .inl v1 =>
    (ab_stJ q1.2 l2 (0 : Int32) v1.toInt64).bind fun m2 =>
    some ((0 : Int32), m2)
  | .inr v1 =>
    if v1 = 0 then
      some ((1 : Int32), q1.2)
    else if v1 = 1 then
      some ((2 : Int32), q1.2)
    else none
def dd_L_migrate  (l0 : Nat) (l1 : Int32) (l2 : Int32) (l3 : Nat) (m0 : ab_Mm) : Option (Int32 × ab_Mm) :=
  (ab_rc m0 11 l0).bind fun _ =>
  (dd_X11_migrate l0 l1 l2 m0).bind fun q1 =>
  match q1.1 with
  | .inl v1 =>
    (ab_stJ q1.2 l3 (0 : Int32) v1.toInt64).bind fun m2 =>
    some ((0 : Int32), m2)
  | .inr v1 =>
    if v1 = 0 then
      some ((1 : Int32), q1.2)
    else if v1 = 1 then
      some ((2 : Int32), q1.2)
    else none
def dd_L_drain  (l0 : Nat) (l1 : Int32) (l2 : Nat) (m0 : ab_Mm) : Option (Int32 × ab_Mm) :=
  (ab_rc m0 11 l0).bind fun _ =>
  (dd_X11_drain l0 l1 m0).bind fun q1 =>
  match q1.1 with
  | .inl v1 =>
    (ab_stJ q1.2 l2 (0 : Int32) v1.toInt64).bind fun m2 =>
    some ((0 : Int32), m2)
  | .inr v1 =>
    if v1 = 0 then
      some ((1 : Int32), q1.2)
    else if v1 = 1 then
      some ((2 : Int32), q1.2)
    else none
def bb_L_saveSnapshot_15  (s0 : Nat) (s1 : Int32) (s2 : Int64) (m0 : ab_Mm) : Option (Int32 × ab_Mm) :=
  (ab_stJ m0 s0 s1 s2).bind fun m1 =>
  some ((0 : Int32), m1)
def dd_L_saveSnapshot  (l0 : Nat) (l1 : Int32) (l2 : Nat) (m0 : ab_Mm) : Option (Int32 × ab_Mm) :=
  (ab_rc m0 11 l0).bind fun _ =>
  (dd_X11_saveSnapshot l0 l1 m0).bind fun q1 =>
  match q1.1 with
  | .inl v1 =>
    if v1 = 0 then
      bb_L_saveSnapshot_15  l2 (0 : Int32) (0 : Int64) q1.2
    else
      bb_L_saveSnapshot_15  l2 (0 : Int32) (1 : Int64) q1.2
  | .inr v1 =>
    if v1 = 0 then
      some ((1 : Int32), q1.2)
    else none
def dd_L_restoreSnapshot  (l0 : Nat) (l1 : Int32) (l2 : Nat) (m0 : ab_Mm) : Option (Int32 × ab_Mm) :=
  (ab_rc m0 11 l0).bind fun _ =>
  (dd_X11_restoreSnapshot l0 l1 m0).bind fun q1 =>
  match q1.1 with
  | .inl v1 =>
    (ab_stJ q1.2 l2 (0 : Int32) v1.toInt64).bind fun m2 =>
    some ((0 : Int32), m2)
  | .inr v1 =>
    if v1 = 0 then
      some ((1 : Int32), q1.2)
    else if v1 = 1 then
      some ((2 : Int32), q1.2)
    else none
def bb_L_law_2330 (Ln : Nat) (xs : Nat → Int32) (r23 : Nat → Nat → Nat → Int32 → ab_Mm → Option (Int32 × ab_Mm)) (l1 : Nat) (l2 : Nat) (l3 : Nat) (l4 : Int32) (m0 : ab_Mm) : Option (Int32 × ab_Mm) :=
  r23 l1 l2 l3 (l4 + (6 : Int32)) m0
def bb_L_law_2327 (Ln : Nat) (xs : Nat → Int32) (r23 : Nat → Nat → Nat → Int32 → ab_Mm → Option (Int32 × ab_Mm)) (l1 : Nat) (l2 : Nat) (l3 : Nat) (l4 : Int32) (m0 : ab_Mm) : Option (Int32 × ab_Mm) :=
  bb_L_law_2330 Ln xs r23 l1 l2 l3 l4 m0
def bb_L_law_2271 (Ln : Nat) (xs : Nat → Int32) (r23 : Nat → Nat → Nat → Int32 → ab_Mm → Option (Int32 × ab_Mm)) (l1 : Nat) (l2 : Nat) (l3 : Nat) (l4 : Int32) (m0 : ab_Mm) : Option (Int32 × ab_Mm) :=
  bb_L_law_2330 Ln xs r23 l1 l2 l3 l4 m0
def bb_L_law_2265 (Ln : Nat) (xs : Nat → Int32) (r23 : Nat → Nat → Nat → Int32 → ab_Mm → Option (Int32 × ab_Mm)) (l1 : Nat) (l2 : Nat) (l3 : Nat) (l4 : Int32) (s0 : Int64) (s1 : Int64) (m0 : ab_Mm) : Option (Int32 × ab_Mm) :=
  if (lg_cmp s0 s1) = 0 then
    bb_L_law_2271 Ln xs r23 l1 l2 l3 l4 m0
  else
    some ((0 : Int32), m0)
def bb_L_law_2195 (Ln : Nat) (xs : Nat → Int32) (r23 : Nat → Nat → Nat → Int32 → ab_Mm → Option (Int32 × ab_Mm)) (l1 : Nat) (l2 : Nat) (l3 : Nat) (l4 : Int32) (m0 : ab_Mm) : Option (Int32 × ab_Mm) :=
  bb_L_law_2330 Ln xs r23 l1 l2 l3 l4 m0
def bb_L_law_2139 (Ln : Nat) (xs : Nat → Int32) (r23 : Nat → Nat → Nat → Int32 → ab_Mm → Option (Int32 × ab_Mm)) (l1 : Nat) (l2 : Nat) (l3 : Nat) (l4 : Int32) (m0 : ab_Mm) : Option (Int32 × ab_Mm) :=
  bb_L_law_2330 Ln xs r23 l1 l2 l3 l4 m0
def bb_L_law_2071 (Ln : Nat) (xs : Nat → Int32) (r23 : Nat → Nat → Nat → Int32 → ab_Mm → Option (Int32 × ab_Mm)) (l1 : Nat) (l2 : Nat) (l3 : Nat) (l4 : Int32) (m0 : ab_Mm) : Option (Int32 × ab_Mm) :=
  bb_L_law_2330 Ln xs r23 l1 l2 l3 l4 m0
def bb_L_law_2015 (Ln : Nat) (xs : Nat → Int32) (r23 : Nat → Nat → Nat → Int32 → ab_Mm → Option (Int32 × ab_Mm)) (l1 : Nat) (l2 : Nat) (l3 : Nat) (l4 : Int32) (m0 : ab_Mm) : Option (Int32 × ab_Mm) :=
  bb_L_law_2330 Ln xs r23 l1 l2 l3 l4 m0
def bb_L_law_1959 (Ln : Nat) (xs : Nat → Int32) (r23 : Nat → Nat → Nat → Int32 → ab_Mm → Option (Int32 × ab_Mm)) (l1 : Nat) (l2 : Nat) (l3 : Nat) (l4 : Int32) (m0 : ab_Mm) : Option (Int32 × ab_Mm) :=
  bb_L_law_2330 Ln xs r23 l1 l2 l3 l4 m0
def bb_L_law_1903 (Ln : Nat) (xs : Nat → Int32) (r23 : Nat → Nat → Nat → Int32 → ab_Mm → Option (Int32 × ab_Mm)) (l1 : Nat) (l2 : Nat) (l3 : Nat) (l4 : Int32) (m0 : ab_Mm) : Option (Int32 × ab_Mm) :=
  bb_L_law_2330 Ln xs r23 l1 l2 l3 l4 m0
def bb_L_law_1823 (Ln : Nat) (xs : Nat → Int32) (r23 : Nat → Nat → Nat → Int32 → ab_Mm → Option (Int32 × ab_Mm)) (l1 : Nat) (l2 : Nat) (l3 : Nat) (l4 : Int32) (m0 : ab_Mm) : Option (Int32 × ab_Mm) :=
  bb_L_law_2330 Ln xs r23 l1 l2 l3 l4 m0
def bb_L_law_1755 (Ln : Nat) (xs : Nat → Int32) (r23 : Nat → Nat → Nat → Int32 → ab_Mm → Option (Int32 × ab_Mm)) (l1 : Nat) (l2 : Nat) (l3 : Nat) (l4 : Int32) (m0 : ab_Mm) : Option (Int32 × ab_Mm) :=
  bb_L_law_2330 Ln xs r23 l1 l2 l3 l4 m0
def bb_L_law_1699 (Ln : Nat) (xs : Nat → Int32) (r23 : Nat → Nat → Nat → Int32 → ab_Mm → Option (Int32 × ab_Mm)) (l1 : Nat) (l2 : Nat) (l3 : Nat) (l4 : Int32) (m0 : ab_Mm) : Option (Int32 × ab_Mm) :=
  bb_L_law_2330 Ln xs r23 l1 l2 l3 l4 m0
def bb_L_law_1643 (Ln : Nat) (xs : Nat → Int32) (r23 : Nat → Nat → Nat → Int32 → ab_Mm → Option (Int32 × ab_Mm)) (l1 : Nat) (l2 : Nat) (l3 : Nat) (l4 : Int32) (m0 : ab_Mm) : Option (Int32 × ab_Mm) :=
  bb_L_law_2330 Ln xs r23 l1 l2 l3 l4 m0
def bb_L_law_1575 (Ln : Nat) (xs : Nat → Int32) (r23 : Nat → Nat → Nat → Int32 → ab_Mm → Option (Int32 × ab_Mm)) (l1 : Nat) (l2 : Nat) (l3 : Nat) (l4 : Int32) (m0 : ab_Mm) : Option (Int32 × ab_Mm) :=
  bb_L_law_2330 Ln xs r23 l1 l2 l3 l4 m0
def bb_L_law_1507 (Ln : Nat) (xs : Nat → Int32) (r23 : Nat → Nat → Nat → Int32 → ab_Mm → Option (Int32 × ab_Mm)) (l1 : Nat) (l2 : Nat) (l3 : Nat) (l4 : Int32) (m0 : ab_Mm) : Option (Int32 × ab_Mm) :=
  bb_L_law_2330 Ln xs r23 l1 l2 l3 l4 m0
def bb_L_law_1451 (Ln : Nat) (xs : Nat → Int32) (r23 : Nat → Nat → Nat → Int32 → ab_Mm → Option (Int32 × ab_Mm)) (l1 : Nat) (l2 : Nat) (l3 : Nat) (l4 : Int32) (m0 : ab_Mm) : Option (Int32 × ab_Mm) :=
  bb_L_law_2330 Ln xs r23 l1 l2 l3 l4 m0
def bb_L_law_1370 (Ln : Nat) (xs : Nat → Int32) (r23 : Nat → Nat → Nat → Int32 → ab_Mm → Option (Int32 × ab_Mm)) (l1 : Nat) (l2 : Nat) (l3 : Nat) (l4 : Int32) (m0 : ab_Mm) : Option (Int32 × ab_Mm) :=
  bb_L_law_2330 Ln xs r23 l1 l2 l3 l4 m0
def bb_L_law_1364 (Ln : Nat) (xs : Nat → Int32) (r23 : Nat → Nat → Nat → Int32 → ab_Mm → Option (Int32 × ab_Mm)) (l1 : Nat) (l2 : Nat) (l3 : Nat) (l4 : Int32) (s0 : Int64) (s1 : Int64) (m0 : ab_Mm) : Option (Int32 × ab_Mm) :=
  if (lg_cmp s0 s1) = 0 then
    bb_L_law_1370 Ln xs r23 l1 l2 l3 l4 m0
  else
    some ((0 : Int32), m0)
def bb_L_law_1307 (Ln : Nat) (xs : Nat → Int32) (r23 : Nat → Nat → Nat → Int32 → ab_Mm → Option (Int32 × ab_Mm)) (l1 : Nat) (l2 : Nat) (l3 : Nat) (l4 : Int32) (m0 : ab_Mm) : Option (Int32 × ab_Mm) :=
  bb_L_law_2330 Ln xs r23 l1 l2 l3 l4 m0
def bb_L_law_1301 (Ln : Nat) (xs : Nat → Int32) (r23 : Nat → Nat → Nat → Int32 → ab_Mm → Option (Int32 × ab_Mm)) (l1 : Nat) (l2 : Nat) (l3 : Nat) (l4 : Int32) (s0 : Int64) (s1 : Int64) (m0 : ab_Mm) : Option (Int32 × ab_Mm) :=
  if (lg_cmp s0 s1) = 0 then
    bb_L_law_1307 Ln xs r23 l1 l2 l3 l4 m0
  else
    some ((0 : Int32), m0)
def bb_L_law_1244 (Ln : Nat) (xs : Nat → Int32) (r23 : Nat → Nat → Nat → Int32 → ab_Mm → Option (Int32 × ab_Mm)) (l1 : Nat) (l2 : Nat) (l3 : Nat) (l4 : Int32) (m0 : ab_Mm) : Option (Int32 × ab_Mm) :=
  bb_L_law_2330 Ln xs r23 l1 l2 l3 l4 m0
def bb_L_law_1176 (Ln : Nat) (xs : Nat → Int32) (r23 : Nat → Nat → Nat → Int32 → ab_Mm → Option (Int32 × ab_Mm)) (l1 : Nat) (l2 : Nat) (l3 : Nat) (l4 : Int32) (m0 : ab_Mm) : Option (Int32 × ab_Mm) :=
  bb_L_law_2330 Ln xs r23 l1 l2 l3 l4 m0
def bb_L_law_1120 (Ln : Nat) (xs : Nat → Int32) (r23 : Nat → Nat → Nat → Int32 → ab_Mm → Option (Int32 × ab_Mm)) (l1 : Nat) (l2 : Nat) (l3 : Nat) (l4 : Int32) (m0 : ab_Mm) : Option (Int32 × ab_Mm) :=
  bb_L_law_2330 Ln xs r23 l1 l2 l3 l4 m0
def bb_L_law_1027 (Ln : Nat) (xs : Nat → Int32) (r23 : Nat → Nat → Nat → Int32 → ab_Mm → Option (Int32 × ab_Mm)) (l1 : Nat) (l2 : Nat) (l3 : Nat) (l4 : Int32) (m0 : ab_Mm) : Option (Int32 × ab_Mm) :=
  bb_L_law_2330 Ln xs r23 l1 l2 l3 l4 m0
def bb_L_law_971 (Ln : Nat) (xs : Nat → Int32) (r23 : Nat → Nat → Nat → Int32 → ab_Mm → Option (Int32 × ab_Mm)) (l1 : Nat) (l2 : Nat) (l3 : Nat) (l4 : Int32) (m0 : ab_Mm) : Option (Int32 × ab_Mm) :=
  bb_L_law_2330 Ln xs r23 l1 l2 l3 l4 m0
def bb_L_law_915 (Ln : Nat) (xs : Nat → Int32) (r23 : Nat → Nat → Nat → Int32 → ab_Mm → Option (Int32 × ab_Mm)) (l1 : Nat) (l2 : Nat) (l3 : Nat) (l4 : Int32) (m0 : ab_Mm) : Option (Int32 × ab_Mm) :=
  bb_L_law_2330 Ln xs r23 l1 l2 l3 l4 m0
def bb_L_law_859 (Ln : Nat) (xs : Nat → Int32) (r23 : Nat → Nat → Nat → Int32 → ab_Mm → Option (Int32 × ab_Mm)) (l1 : Nat) (l2 : Nat) (l3 : Nat) (l4 : Int32) (m0 : ab_Mm) : Option (Int32 × ab_Mm) :=
  bb_L_law_2330 Ln xs r23 l1 l2 l3 l4 m0
def bb_L_law_803 (Ln : Nat) (xs : Nat → Int32) (r23 : Nat → Nat → Nat → Int32 → ab_Mm → Option (Int32 × ab_Mm)) (l1 : Nat) (l2 : Nat) (l3 : Nat) (l4 : Int32) (m0 : ab_Mm) : Option (Int32 × ab_Mm) :=
  bb_L_law_2330 Ln xs r23 l1 l2 l3 l4 m0
def bb_L_law_734 (Ln : Nat) (xs : Nat → Int32) (r23 : Nat → Nat → Nat → Int32 → ab_Mm → Option (Int32 × ab_Mm)) (l1 : Nat) (l2 : Nat) (l3 : Nat) (l4 : Int32) (m0 : ab_Mm) : Option (Int32 × ab_Mm) :=
  bb_L_law_2330 Ln xs r23 l1 l2 l3 l4 m0
def bb_L_law_678 (Ln : Nat) (xs : Nat → Int32) (r23 : Nat → Nat → Nat → Int32 → ab_Mm → Option (Int32 × ab_Mm)) (l1 : Nat) (l2 : Nat) (l3 : Nat) (l4 : Int32) (m0 : ab_Mm) : Option (Int32 × ab_Mm) :=
  bb_L_law_2330 Ln xs r23 l1 l2 l3 l4 m0
def bb_L_law_622 (Ln : Nat) (xs : Nat → Int32) (r23 : Nat → Nat → Nat → Int32 → ab_Mm → Option (Int32 × ab_Mm)) (l1 : Nat) (l2 : Nat) (l3 : Nat) (l4 : Int32) (m0 : ab_Mm) : Option (Int32 × ab_Mm) :=
  bb_L_law_2330 Ln xs r23 l1 l2 l3 l4 m0
def bb_L_law_566 (Ln : Nat) (xs : Nat → Int32) (r23 : Nat → Nat → Nat → Int32 → ab_Mm → Option (Int32 × ab_Mm)) (l1 : Nat) (l2 : Nat) (l3 : Nat) (l4 : Int32) (m0 : ab_Mm) : Option (Int32 × ab_Mm) :=
  bb_L_law_2330 Ln xs r23 l1 l2 l3 l4 m0
def bb_L_law_564 (Ln : Nat) (xs : Nat → Int32)  (m0 : ab_Mm) : Option (Int32 × ab_Mm) :=
  some ((0 : Int32), m0)
def bb_L_law_525 (Ln : Nat) (xs : Nat → Int32) (r23 : Nat → Nat → Nat → Int32 → ab_Mm → Option (Int32 × ab_Mm)) (l1 : Nat) (l2 : Nat) (l3 : Nat) (l4 : Int32) (m0 : ab_Mm) : Option (Int32 × ab_Mm) :=
  bb_L_law_2330 Ln xs r23 l1 l2 l3 l4 m0
def bb_L_law_469 (Ln : Nat) (xs : Nat → Int32) (r23 : Nat → Nat → Nat → Int32 → ab_Mm → Option (Int32 × ab_Mm)) (l1 : Nat) (l2 : Nat) (l3 : Nat) (l4 : Int32) (m0 : ab_Mm) : Option (Int32 × ab_Mm) :=
  bb_L_law_2330 Ln xs r23 l1 l2 l3 l4 m0
def bb_L_law_436 (Ln : Nat) (xs : Nat → Int32) (r23 : Nat → Nat → Nat → Int32 → ab_Mm → Option (Int32 × ab_Mm)) (l1 : Nat) (l2 : Nat) (l3 : Nat) (l4 : Int32) (l5 : Int32) (s0 : Nat) (s1 : Int32) (s2 : Int32) (m0 : ab_Mm) : Option (Int32 × ab_Mm) :=
  (ab_rc m0 12 s0).bind fun _ =>
  (dd_X12_free s0 s1 s2 m0).bind fun q1 =>
  (ab_rc q1.2 12 l2).bind fun _ =>
  (dd_X12_thrown l2 q1.2).bind fun q2 =>
  if q2.1 = l5 then
    if l5 = 0 then
      (ab_ldJ q2.2 l3 (0 : Int32)).bind fun v3 =>
      if (lg_cmp v3 q1.1.toInt64) = 0 then
        bb_L_law_469 Ln xs r23 l1 l2 l3 l4 q2.2
      else
        some ((0 : Int32), q2.2)
    else
      bb_L_law_469 Ln xs r23 l1 l2 l3 l4 q2.2
  else
    some ((0 : Int32), q2.2)
def bb_L_law_409 (Ln : Nat) (xs : Nat → Int32) (r23 : Nat → Nat → Nat → Int32 → ab_Mm → Option (Int32 × ab_Mm)) (l1 : Nat) (l2 : Nat) (l3 : Nat) (l4 : Int32) (s0 : Nat) (s1 : Int32) (s2 : Int32) (m0 : ab_Mm) : Option (Int32 × ab_Mm) :=
  (dd_L_free s0 s1 s2 l3 m0).bind fun q1 =>
  if ((l4 + (1 : Int32)) < 0 ∨ Ln ≤ (l4 + (1 : Int32)).toNatClampNeg) then none else
  if ((l4 + (2 : Int32)) < 0 ∨ Ln ≤ (l4 + (2 : Int32)).toNatClampNeg) then none else
  if (xs (l4 + (2 : Int32)).toNatClampNeg) = 0 then
    bb_L_law_436 Ln xs r23 l1 l2 l3 l4 q1.1 l2 (xs (l4 + (1 : Int32)).toNatClampNeg) (0 : Int32) q1.2
  else
    bb_L_law_436 Ln xs r23 l1 l2 l3 l4 q1.1 l2 (xs (l4 + (1 : Int32)).toNatClampNeg) (1 : Int32) q1.2
def bb_L_law_346 (Ln : Nat) (xs : Nat → Int32) (r23 : Nat → Nat → Nat → Int32 → ab_Mm → Option (Int32 × ab_Mm)) (l1 : Nat) (l2 : Nat) (l3 : Nat) (l4 : Int32) (m0 : ab_Mm) : Option (Int32 × ab_Mm) :=
  bb_L_law_2330 Ln xs r23 l1 l2 l3 l4 m0
def bb_L_law_23 (Ln : Nat) (xs : Nat → Int32) : Nat → Nat → Nat → Nat → Int32 → ab_Mm → Option (Int32 × ab_Mm)
  | 0, _, _, _, _, _ => none
  | n + 1, l1, l2, l3, l4, m0 =>
    if ((Int32.ofNat Ln) - (6 : Int32)) < l4 then
      some ((1 : Int32), m0)
    else
      if (l4 < 0 ∨ Ln ≤ l4.toNatClampNeg) then none else
      if ((xs l4.toNatClampNeg) &&& (63 : Int32)) = (0 : Int32) then
        if ((l4 + (1 : Int32)) < 0 ∨ Ln ≤ (l4 + (1 : Int32)).toNatClampNeg) then none else
        if ((l4 + (2 : Int32)) < 0 ∨ Ln ≤ (l4 + (2 : Int32)).toNatClampNeg) then none else
        if ((l4 + (3 : Int32)) < 0 ∨ Ln ≤ (l4 + (3 : Int32)).toNatClampNeg) then none else
        if ((l4 + (4 : Int32)) < 0 ∨ Ln ≤ (l4 + (4 : Int32)).toNatClampNeg) then none else
        if ((l4 + (5 : Int32)) < 0 ∨ Ln ≤ (l4 + (5 : Int32)).toNatClampNeg) then none else
        (ab_rc m0 11 l1).bind fun _ =>
        (dd_X11_append l1 (xs (l4 + (1 : Int32)).toNatClampNeg) (xs (l4 + (2 : Int32)).toNatClampNeg) (xs (l4 + (3 : Int32)).toNatClampNeg) (xs (l4 + (4 : Int32)).toNatClampNeg) (xs (l4 + (5 : Int32)).toNatClampNeg) m0).bind fun q8 =>
        if ((l4 + (1 : Int32)) < 0 ∨ Ln ≤ (l4 + (1 : Int32)).toNatClampNeg) then none else
        if ((l4 + (2 : Int32)) < 0 ∨ Ln ≤ (l4 + (2 : Int32)).toNatClampNeg) then none else
        if ((l4 + (3 : Int32)) < 0 ∨ Ln ≤ (l4 + (3 : Int32)).toNatClampNeg) then none else
        if ((l4 + (4 : Int32)) < 0 ∨ Ln ≤ (l4 + (4 : Int32)).toNatClampNeg) then none else
        if ((l4 + (5 : Int32)) < 0 ∨ Ln ≤ (l4 + (5 : Int32)).toNatClampNeg) then none else
        (ab_rc q8.2 12 l2).bind fun _ =>
        (dd_X12_append l2 (xs (l4 + (1 : Int32)).toNatClampNeg) (xs (l4 + (2 : Int32)).toNatClampNeg) (xs (l4 + (3 : Int32)).toNatClampNeg) (xs (l4 + (4 : Int32)).toNatClampNeg) (xs (l4 + (5 : Int32)).toNatClampNeg) q8.2).bind fun q14 =>
        if q8.1 = q14.1 then
          bb_L_law_2330 Ln xs (bb_L_law_23 Ln xs n) l1 l2 l3 l4 q14.2
        else
          some ((0 : Int32), q14.2)
      else if ((xs l4.toNatClampNeg) &&& (63 : Int32)) = (1 : Int32) then
        if ((l4 + (1 : Int32)) < 0 ∨ Ln ≤ (l4 + (1 : Int32)).toNatClampNeg) then none else
        (dd_L_parse l1 (xs (l4 + (1 : Int32)).toNatClampNeg) l3 m0).bind fun q16 =>
        if ((l4 + (1 : Int32)) < 0 ∨ Ln ≤ (l4 + (1 : Int32)).toNatClampNeg) then none else
        (ab_rc q16.2 12 l2).bind fun _ =>
        (dd_X12_parse l2 (xs (l4 + (1 : Int32)).toNatClampNeg) q16.2).bind fun q18 =>
        (ab_rc q18.2 12 l2).bind fun _ =>
        (dd_X12_thrown l2 q18.2).bind fun q19 =>
        if q19.1 = q16.1 then
          if q16.1 = 0 then
            (ab_ldJ q19.2 l3 (0 : Int32)).bind fun v20 =>
            if (lg_cmp v20 q18.1.toInt64) = 0 then
              bb_L_law_346 Ln xs (bb_L_law_23 Ln xs n) l1 l2 l3 l4 q19.2
            else
              some ((0 : Int32), q19.2)
          else
            bb_L_law_346 Ln xs (bb_L_law_23 Ln xs n) l1 l2 l3 l4 q19.2
        else
          some ((0 : Int32), q19.2)
      else if ((xs l4.toNatClampNeg) &&& (63 : Int32)) = (2 : Int32) then
        (ab_rc m0 11 l1).bind fun _ =>
        (dd_X11_errorPosition l1 m0).bind fun q21 =>
        (ab_rc q21.2 12 l2).bind fun _ =>
        (dd_X12_errorPosition l2 q21.2).bind fun q22 =>
        if q21.1 = q22.1 then
          bb_L_law_2330 Ln xs (bb_L_law_23 Ln xs n) l1 l2 l3 l4 q22.2
        else
          some ((0 : Int32), q22.2)
      else if ((xs l4.toNatClampNeg) &&& (63 : Int32)) = (3 : Int32) then
        (ab_rc m0 11 l1).bind fun _ =>
        (dd_X11_hostCount l1 m0).bind fun q23 =>
        (ab_rc q23.2 12 l2).bind fun _ =>
        (dd_X12_hostCount l2 q23.2).bind fun q24 =>
        if q23.1 = q24.1 then
          bb_L_law_2330 Ln xs (bb_L_law_23 Ln xs n) l1 l2 l3 l4 q24.2
        else
          some ((0 : Int32), q24.2)
      else if ((xs l4.toNatClampNeg) &&& (63 : Int32)) = (4 : Int32) then
        (ab_rc m0 11 l1).bind fun _ =>
        (dd_X11_clock l1 m0).bind fun q25 =>
        (ab_rc q25.2 12 l2).bind fun _ =>
        (dd_X12_clock l2 q25.2).bind fun q26 =>
        if q25.1 = q26.1 then
          bb_L_law_2330 Ln xs (bb_L_law_23 Ln xs n) l1 l2 l3 l4 q26.2
        else
          some ((0 : Int32), q26.2)
      else if ((xs l4.toNatClampNeg) &&& (63 : Int32)) = (5 : Int32) then
        if ((l4 + (1 : Int32)) < 0 ∨ Ln ≤ (l4 + (1 : Int32)).toNatClampNeg) then none else
        if ((l4 + (2 : Int32)) < 0 ∨ Ln ≤ (l4 + (2 : Int32)).toNatClampNeg) then none else
        if (xs (l4 + (2 : Int32)).toNatClampNeg) = 0 then
          bb_L_law_409 Ln xs (bb_L_law_23 Ln xs n) l1 l2 l3 l4 l1 (xs (l4 + (1 : Int32)).toNatClampNeg) (0 : Int32) m0
        else
          bb_L_law_409 Ln xs (bb_L_law_23 Ln xs n) l1 l2 l3 l4 l1 (xs (l4 + (1 : Int32)).toNatClampNeg) (1 : Int32) m0
      else if ((xs l4.toNatClampNeg) &&& (63 : Int32)) = (6 : Int32) then
        if ((l4 + (1 : Int32)) < 0 ∨ Ln ≤ (l4 + (1 : Int32)).toNatClampNeg) then none else
        (dd_L_instancesOn l1 (xs (l4 + (1 : Int32)).toNatClampNeg) l3 m0).bind fun q30 =>
        if ((l4 + (1 : Int32)) < 0 ∨ Ln ≤ (l4 + (1 : Int32)).toNatClampNeg) then none else
        (ab_rc q30.2 12 l2).bind fun _ =>
        (dd_X12_instancesOn l2 (xs (l4 + (1 : Int32)).toNatClampNeg) q30.2).bind fun q32 =>
        (ab_rc q32.2 12 l2).bind fun _ =>
        (dd_X12_thrown l2 q32.2).bind fun q33 =>
        if q33.1 = q30.1 then
          if q30.1 = 0 then
            (ab_ldJ q33.2 l3 (0 : Int32)).bind fun v34 =>
            if (lg_cmp v34 q32.1.toInt64) = 0 then
              bb_L_law_525 Ln xs (bb_L_law_23 Ln xs n) l1 l2 l3 l4 q33.2
            else
              some ((0 : Int32), q33.2)
          else
            bb_L_law_525 Ln xs (bb_L_law_23 Ln xs n) l1 l2 l3 l4 q33.2
        else
          some ((0 : Int32), q33.2)
      else if ((xs l4.toNatClampNeg) &&& (63 : Int32)) = (7 : Int32) then
        (ab_rc m0 11 l1).bind fun _ =>
        (dd_X11_utilisation l1 m0).bind fun q35 =>
        (ab_rc q35.2 12 l2).bind fun _ =>
        (dd_X12_utilisation l2 q35.2).bind fun q36 =>
        if (Op.cmpValue (FP.dcmp q35.1 q36.1) .l) = 0 then
          bb_L_law_566 Ln xs (bb_L_law_23 Ln xs n) l1 l2 l3 l4 q36.2
        else
          if (Op.cmpValue (FP.dcmp q35.1 q35.1) .l) = 0 then
            bb_L_law_564 Ln xs  q36.2
          else
            if (Op.cmpValue (FP.dcmp q36.1 q36.1) .l) = 0 then
              bb_L_law_564 Ln xs  q36.2
            else
              bb_L_law_566 Ln xs (bb_L_law_23 Ln xs n) l1 l2 l3 l4 q36.2
      else if ((xs l4.toNatClampNeg) &&& (63 : Int32)) = (8 : Int32) then
        if ((l4 + (1 : Int32)) < 0 ∨ Ln ≤ (l4 + (1 : Int32)).toNatClampNeg) then none else
        (dd_L_spotPrice l1 (xs (l4 + (1 : Int32)).toNatClampNeg) l3 m0).bind fun q38 =>
        if ((l4 + (1 : Int32)) < 0 ∨ Ln ≤ (l4 + (1 : Int32)).toNatClampNeg) then none else
        (ab_rc q38.2 12 l2).bind fun _ =>
        (dd_X12_spotPrice l2 (xs (l4 + (1 : Int32)).toNatClampNeg) q38.2).bind fun q40 =>
        (ab_rc q40.2 12 l2).bind fun _ =>
        (dd_X12_thrown l2 q40.2).bind fun q41 =>
        if q41.1 = q38.1 then
          if q38.1 = 0 then
            (ab_ldJ q41.2 l3 (0 : Int32)).bind fun v42 =>
            if (lg_cmp v42 q40.1.toInt64) = 0 then
              bb_L_law_622 Ln xs (bb_L_law_23 Ln xs n) l1 l2 l3 l4 q41.2
            else
              some ((0 : Int32), q41.2)
          else
            bb_L_law_622 Ln xs (bb_L_law_23 Ln xs n) l1 l2 l3 l4 q41.2
        else
          some ((0 : Int32), q41.2)
      else if ((xs l4.toNatClampNeg) &&& (63 : Int32)) = (9 : Int32) then
        if ((l4 + (1 : Int32)) < 0 ∨ Ln ≤ (l4 + (1 : Int32)).toNatClampNeg) then none else
        (dd_L_bestHost l1 (xs (l4 + (1 : Int32)).toNatClampNeg) l3 m0).bind fun q44 =>
        if ((l4 + (1 : Int32)) < 0 ∨ Ln ≤ (l4 + (1 : Int32)).toNatClampNeg) then none else
        (ab_rc q44.2 12 l2).bind fun _ =>
        (dd_X12_bestHost l2 (xs (l4 + (1 : Int32)).toNatClampNeg) q44.2).bind fun q46 =>
        (ab_rc q46.2 12 l2).bind fun _ =>
        (dd_X12_thrown l2 q46.2).bind fun q47 =>
        if q47.1 = q44.1 then
          if q44.1 = 0 then
            (ab_ldJ q47.2 l3 (0 : Int32)).bind fun v48 =>
            if (lg_cmp v48 q46.1.toInt64) = 0 then
              bb_L_law_678 Ln xs (bb_L_law_23 Ln xs n) l1 l2 l3 l4 q47.2
            else
              some ((0 : Int32), q47.2)
          else
            bb_L_law_678 Ln xs (bb_L_law_23 Ln xs n) l1 l2 l3 l4 q47.2
        else
          some ((0 : Int32), q47.2)
      else if ((xs l4.toNatClampNeg) &&& (63 : Int32)) = (10 : Int32) then
        if ((l4 + (1 : Int32)) < 0 ∨ Ln ≤ (l4 + (1 : Int32)).toNatClampNeg) then none else
        (dd_L_room l1 (xs (l4 + (1 : Int32)).toNatClampNeg) l3 m0).bind fun q50 =>
        if ((l4 + (1 : Int32)) < 0 ∨ Ln ≤ (l4 + (1 : Int32)).toNatClampNeg) then none else
        (ab_rc q50.2 12 l2).bind fun _ =>
        (dd_X12_room l2 (xs (l4 + (1 : Int32)).toNatClampNeg) q50.2).bind fun q52 =>
        (ab_rc q52.2 12 l2).bind fun _ =>
        (dd_X12_thrown l2 q52.2).bind fun q53 =>
        if q53.1 = q50.1 then
          if q50.1 = 0 then
            (ab_ldJ q53.2 l3 (0 : Int32)).bind fun v54 =>
            if (lg_cmp v54 q52.1.toInt64) = 0 then
              bb_L_law_734 Ln xs (bb_L_law_23 Ln xs n) l1 l2 l3 l4 q53.2
            else
              some ((0 : Int32), q53.2)
          else
            bb_L_law_734 Ln xs (bb_L_law_23 Ln xs n) l1 l2 l3 l4 q53.2
        else
          some ((0 : Int32), q53.2)
      else if ((xs l4.toNatClampNeg) &&& (63 : Int32)) = (11 : Int32) then
        (ab_rc m0 11 l1).bind fun _ =>
        (dd_X11_running l1 m0).bind fun q55 =>
        (ab_rc q55.2 12 l2).bind fun _ =>
        (dd_X12_running l2 q55.2).bind fun q56 =>
        if q55.1 = q56.1 then
          bb_L_law_2330 Ln xs (bb_L_law_23 Ln xs n) l1 l2 l3 l4 q56.2
        else
          some ((0 : Int32), q56.2)
      else if ((xs l4.toNatClampNeg) &&& (63 : Int32)) = (12 : Int32) then
        if ((l4 + (1 : Int32)) < 0 ∨ Ln ≤ (l4 + (1 : Int32)).toNatClampNeg) then none else
        (dd_L_typeOf l1 (xs (l4 + (1 : Int32)).toNatClampNeg) l3 m0).bind fun q58 =>
        if ((l4 + (1 : Int32)) < 0 ∨ Ln ≤ (l4 + (1 : Int32)).toNatClampNeg) then none else
        (ab_rc q58.2 12 l2).bind fun _ =>
        (dd_X12_typeOf l2 (xs (l4 + (1 : Int32)).toNatClampNeg) q58.2).bind fun q60 =>
        (ab_rc q60.2 12 l2).bind fun _ =>
        (dd_X12_thrown l2 q60.2).bind fun q61 =>
        if q61.1 = q58.1 then
          if q58.1 = 0 then
            (ab_ldJ q61.2 l3 (0 : Int32)).bind fun v62 =>
            if (lg_cmp v62 q60.1.toInt64) = 0 then
              bb_L_law_803 Ln xs (bb_L_law_23 Ln xs n) l1 l2 l3 l4 q61.2
            else
              some ((0 : Int32), q61.2)
          else
            bb_L_law_803 Ln xs (bb_L_law_23 Ln xs n) l1 l2 l3 l4 q61.2
        else
          some ((0 : Int32), q61.2)
      else if ((xs l4.toNatClampNeg) &&& (63 : Int32)) = (13 : Int32) then
        if ((l4 + (1 : Int32)) < 0 ∨ Ln ≤ (l4 + (1 : Int32)).toNatClampNeg) then none else
        (dd_L_tenantOf l1 (xs (l4 + (1 : Int32)).toNatClampNeg) l3 m0).bind fun q64 =>
        if ((l4 + (1 : Int32)) < 0 ∨ Ln ≤ (l4 + (1 : Int32)).toNatClampNeg) then none else
        (ab_rc q64.2 12 l2).bind fun _ =>
        (dd_X12_tenantOf l2 (xs (l4 + (1 : Int32)).toNatClampNeg) q64.2).bind fun q66 =>
        (ab_rc q66.2 12 l2).bind fun _ =>
        (dd_X12_thrown l2 q66.2).bind fun q67 =>
        if q67.1 = q64.1 then
          if q64.1 = 0 then
            (ab_ldJ q67.2 l3 (0 : Int32)).bind fun v68 =>
            if (lg_cmp v68 q66.1.toInt64) = 0 then
              bb_L_law_859 Ln xs (bb_L_law_23 Ln xs n) l1 l2 l3 l4 q67.2
            else
              some ((0 : Int32), q67.2)
          else
            bb_L_law_859 Ln xs (bb_L_law_23 Ln xs n) l1 l2 l3 l4 q67.2
        else
          some ((0 : Int32), q67.2)
      else if ((xs l4.toNatClampNeg) &&& (63 : Int32)) = (14 : Int32) then
        if ((l4 + (1 : Int32)) < 0 ∨ Ln ≤ (l4 + (1 : Int32)).toNatClampNeg) then none else
        (dd_L_hostOf l1 (xs (l4 + (1 : Int32)).toNatClampNeg) l3 m0).bind fun q70 =>
        if ((l4 + (1 : Int32)) < 0 ∨ Ln ≤ (l4 + (1 : Int32)).toNatClampNeg) then none else
        (ab_rc q70.2 12 l2).bind fun _ =>
        (dd_X12_hostOf l2 (xs (l4 + (1 : Int32)).toNatClampNeg) q70.2).bind fun q72 =>
        (ab_rc q72.2 12 l2).bind fun _ =>
        (dd_X12_thrown l2 q72.2).bind fun q73 =>
        if q73.1 = q70.1 then
          if q70.1 = 0 then
            (ab_ldJ q73.2 l3 (0 : Int32)).bind fun v74 =>
            if (lg_cmp v74 q72.1.toInt64) = 0 then
              bb_L_law_915 Ln xs (bb_L_law_23 Ln xs n) l1 l2 l3 l4 q73.2
            else
              some ((0 : Int32), q73.2)
          else
            bb_L_law_915 Ln xs (bb_L_law_23 Ln xs n) l1 l2 l3 l4 q73.2
        else
          some ((0 : Int32), q73.2)
      else if ((xs l4.toNatClampNeg) &&& (63 : Int32)) = (15 : Int32) then
        if ((l4 + (1 : Int32)) < 0 ∨ Ln ≤ (l4 + (1 : Int32)).toNatClampNeg) then none else
        (dd_L_bidOf l1 (xs (l4 + (1 : Int32)).toNatClampNeg) l3 m0).bind fun q76 =>
        if ((l4 + (1 : Int32)) < 0 ∨ Ln ≤ (l4 + (1 : Int32)).toNatClampNeg) then none else
        (ab_rc q76.2 12 l2).bind fun _ =>
        (dd_X12_bidOf l2 (xs (l4 + (1 : Int32)).toNatClampNeg) q76.2).bind fun q78 =>
        (ab_rc q78.2 12 l2).bind fun _ =>
        (dd_X12_thrown l2 q78.2).bind fun q79 =>
        if q79.1 = q76.1 then
          if q76.1 = 0 then
            (ab_ldJ q79.2 l3 (0 : Int32)).bind fun v80 =>
            if (lg_cmp v80 q78.1.toInt64) = 0 then
              bb_L_law_971 Ln xs (bb_L_law_23 Ln xs n) l1 l2 l3 l4 q79.2
            else
              some ((0 : Int32), q79.2)
          else
            bb_L_law_971 Ln xs (bb_L_law_23 Ln xs n) l1 l2 l3 l4 q79.2
        else
          some ((0 : Int32), q79.2)
      else if ((xs l4.toNatClampNeg) &&& (63 : Int32)) = (16 : Int32) then
        if ((l4 + (1 : Int32)) < 0 ∨ Ln ≤ (l4 + (1 : Int32)).toNatClampNeg) then none else
        (dd_L_noticeOf l1 (xs (l4 + (1 : Int32)).toNatClampNeg) l3 m0).bind fun q82 =>
        if ((l4 + (1 : Int32)) < 0 ∨ Ln ≤ (l4 + (1 : Int32)).toNatClampNeg) then none else
        (ab_rc q82.2 12 l2).bind fun _ =>
        (dd_X12_noticeOf l2 (xs (l4 + (1 : Int32)).toNatClampNeg) q82.2).bind fun q84 =>
        (ab_rc q84.2 12 l2).bind fun _ =>
        (dd_X12_thrown l2 q84.2).bind fun q85 =>
        if q85.1 = q82.1 then
          if q82.1 = 0 then
            (ab_ldJ q85.2 l3 (0 : Int32)).bind fun v86 =>
            if (lg_cmp v86 q84.1.toInt64) = 0 then
              bb_L_law_1027 Ln xs (bb_L_law_23 Ln xs n) l1 l2 l3 l4 q85.2
            else
              some ((0 : Int32), q85.2)
          else
            bb_L_law_1027 Ln xs (bb_L_law_23 Ln xs n) l1 l2 l3 l4 q85.2
        else
          some ((0 : Int32), q85.2)
      else if ((xs l4.toNatClampNeg) &&& (63 : Int32)) = (17 : Int32) then
        (ab_rc m0 11 l1).bind fun _ =>
        (dd_X11_waiting l1 m0).bind fun q87 =>
        (ab_rc q87.2 12 l2).bind fun _ =>
        (dd_X12_waiting l2 q87.2).bind fun q88 =>
        if q87.1 = q88.1 then
          bb_L_law_2330 Ln xs (bb_L_law_23 Ln xs n) l1 l2 l3 l4 q88.2
        else
          some ((0 : Int32), q88.2)
      else if ((xs l4.toNatClampNeg) &&& (63 : Int32)) = (18 : Int32) then
        if ((l4 + (1 : Int32)) < 0 ∨ Ln ≤ (l4 + (1 : Int32)).toNatClampNeg) then none else
        (ab_rc m0 11 l1).bind fun _ =>
        (dd_X11_waitingBid l1 (xs (l4 + (1 : Int32)).toNatClampNeg) m0).bind fun q90 =>
        if ((l4 + (1 : Int32)) < 0 ∨ Ln ≤ (l4 + (1 : Int32)).toNatClampNeg) then none else
        (ab_rc q90.2 12 l2).bind fun _ =>
        (dd_X12_waitingBid l2 (xs (l4 + (1 : Int32)).toNatClampNeg) q90.2).bind fun q92 =>
        if q90.1 = q92.1 then
          bb_L_law_2330 Ln xs (bb_L_law_23 Ln xs n) l1 l2 l3 l4 q92.2
        else
          some ((0 : Int32), q92.2)
      else if ((xs l4.toNatClampNeg) &&& (63 : Int32)) = (19 : Int32) then
        if ((l4 + (1 : Int32)) < 0 ∨ Ln ≤ (l4 + (1 : Int32)).toNatClampNeg) then none else
        (dd_L_spent l1 (xs (l4 + (1 : Int32)).toNatClampNeg) l3 m0).bind fun q94 =>
        if ((l4 + (1 : Int32)) < 0 ∨ Ln ≤ (l4 + (1 : Int32)).toNatClampNeg) then none else
        (ab_rc q94.2 12 l2).bind fun _ =>
        (dd_X12_spent l2 (xs (l4 + (1 : Int32)).toNatClampNeg) q94.2).bind fun q96 =>
        (ab_rc q96.2 12 l2).bind fun _ =>
        (dd_X12_thrown l2 q96.2).bind fun q97 =>
        if q97.1 = q94.1 then
          if q94.1 = 0 then
            (ab_ldJ q97.2 l3 (0 : Int32)).bind fun v98 =>
            if (lg_cmp v98 q96.1) = 0 then
              bb_L_law_1120 Ln xs (bb_L_law_23 Ln xs n) l1 l2 l3 l4 q97.2
            else
              some ((0 : Int32), q97.2)
          else
            bb_L_law_1120 Ln xs (bb_L_law_23 Ln xs n) l1 l2 l3 l4 q97.2
        else
          some ((0 : Int32), q97.2)
      else if ((xs l4.toNatClampNeg) &&& (63 : Int32)) = (20 : Int32) then
        if ((l4 + (1 : Int32)) < 0 ∨ Ln ≤ (l4 + (1 : Int32)).toNatClampNeg) then none else
        (dd_L_hourlyBill l1 (xs (l4 + (1 : Int32)).toNatClampNeg) l3 m0).bind fun q100 =>
        if ((l4 + (1 : Int32)) < 0 ∨ Ln ≤ (l4 + (1 : Int32)).toNatClampNeg) then none else
        (ab_rc q100.2 12 l2).bind fun _ =>
        (dd_X12_hourlyBill l2 (xs (l4 + (1 : Int32)).toNatClampNeg) q100.2).bind fun q102 =>
        (ab_rc q102.2 12 l2).bind fun _ =>
        (dd_X12_thrown l2 q102.2).bind fun q103 =>
        if q103.1 = q100.1 then
          if q100.1 = 0 then
            (ab_ldJ q103.2 l3 (0 : Int32)).bind fun v104 =>
            if (lg_cmp v104 q102.1.toInt64) = 0 then
              bb_L_law_1176 Ln xs (bb_L_law_23 Ln xs n) l1 l2 l3 l4 q103.2
            else
              some ((0 : Int32), q103.2)
          else
            bb_L_law_1176 Ln xs (bb_L_law_23 Ln xs n) l1 l2 l3 l4 q103.2
        else
          some ((0 : Int32), q103.2)
      else if ((xs l4.toNatClampNeg) &&& (63 : Int32)) = (21 : Int32) then
        if ((l4 + (1 : Int32)) < 0 ∨ Ln ≤ (l4 + (1 : Int32)).toNatClampNeg) then none else
        if ((l4 + (2 : Int32)) < 0 ∨ Ln ≤ (l4 + (2 : Int32)).toNatClampNeg) then none else
        (dd_L_covered l1 (xs (l4 + (1 : Int32)).toNatClampNeg) (xs (l4 + (2 : Int32)).toNatClampNeg) l3 m0).bind fun q107 =>
        if ((l4 + (1 : Int32)) < 0 ∨ Ln ≤ (l4 + (1 : Int32)).toNatClampNeg) then none else
        if ((l4 + (2 : Int32)) < 0 ∨ Ln ≤ (l4 + (2 : Int32)).toNatClampNeg) then none else
        (ab_rc q107.2 12 l2).bind fun _ =>
        (dd_X12_covered l2 (xs (l4 + (1 : Int32)).toNatClampNeg) (xs (l4 + (2 : Int32)).toNatClampNeg) q107.2).bind fun q110 =>
        (ab_rc q110.2 12 l2).bind fun _ =>
        (dd_X12_thrown l2 q110.2).bind fun q111 =>
        if q111.1 = q107.1 then
          if q107.1 = 0 then
            (ab_ldJ q111.2 l3 (0 : Int32)).bind fun v112 =>
            if (lg_cmp v112 q110.1.toInt64) = 0 then
              bb_L_law_1244 Ln xs (bb_L_law_23 Ln xs n) l1 l2 l3 l4 q111.2
            else
              some ((0 : Int32), q111.2)
          else
            bb_L_law_1244 Ln xs (bb_L_law_23 Ln xs n) l1 l2 l3 l4 q111.2
        else
          some ((0 : Int32), q111.2)
      else if ((xs l4.toNatClampNeg) &&& (63 : Int32)) = (22 : Int32) then
        if ((l4 + (1 : Int32)) < 0 ∨ Ln ≤ (l4 + (1 : Int32)).toNatClampNeg) then none else
        (dd_L_isOverBudget l1 (xs (l4 + (1 : Int32)).toNatClampNeg) l3 m0).bind fun q114 =>
        if ((l4 + (1 : Int32)) < 0 ∨ Ln ≤ (l4 + (1 : Int32)).toNatClampNeg) then none else
        (ab_rc q114.2 12 l2).bind fun _ =>
        (dd_X12_isOverBudget l2 (xs (l4 + (1 : Int32)).toNatClampNeg) q114.2).bind fun q116 =>
        (ab_rc q116.2 12 l2).bind fun _ =>
        (dd_X12_thrown l2 q116.2).bind fun q117 =>
        if q117.1 = q114.1 then
          if q114.1 = 0 then
            (ab_ldJ q117.2 l3 (0 : Int32)).bind fun v118 =>
            if q116.1 = 0 then
              bb_L_law_1301 Ln xs (bb_L_law_23 Ln xs n) l1 l2 l3 l4 v118 (0 : Int64) q117.2
            else
              bb_L_law_1301 Ln xs (bb_L_law_23 Ln xs n) l1 l2 l3 l4 v118 (1 : Int64) q117.2
          else
            bb_L_law_1307 Ln xs (bb_L_law_23 Ln xs n) l1 l2 l3 l4 q117.2
        else
          some ((0 : Int32), q117.2)
      else if ((xs l4.toNatClampNeg) &&& (63 : Int32)) = (23 : Int32) then
        if ((l4 + (1 : Int32)) < 0 ∨ Ln ≤ (l4 + (1 : Int32)).toNatClampNeg) then none else
        (dd_L_pays l1 (xs (l4 + (1 : Int32)).toNatClampNeg) l3 m0).bind fun q120 =>
        if ((l4 + (1 : Int32)) < 0 ∨ Ln ≤ (l4 + (1 : Int32)).toNatClampNeg) then none else
        (ab_rc q120.2 12 l2).bind fun _ =>
        (dd_X12_pays l2 (xs (l4 + (1 : Int32)).toNatClampNeg) q120.2).bind fun q122 =>
        (ab_rc q122.2 12 l2).bind fun _ =>
        (dd_X12_thrown l2 q122.2).bind fun q123 =>
        if q123.1 = q120.1 then
          if q120.1 = 0 then
            (ab_ldJ q123.2 l3 (0 : Int32)).bind fun v124 =>
            if q122.1 = 0 then
              bb_L_law_1364 Ln xs (bb_L_law_23 Ln xs n) l1 l2 l3 l4 v124 (0 : Int64) q123.2
            else
              bb_L_law_1364 Ln xs (bb_L_law_23 Ln xs n) l1 l2 l3 l4 v124 (1 : Int64) q123.2
          else
            bb_L_law_1370 Ln xs (bb_L_law_23 Ln xs n) l1 l2 l3 l4 q123.2
        else
          some ((0 : Int32), q123.2)
      else if ((xs l4.toNatClampNeg) &&& (63 : Int32)) = (24 : Int32) then
        (ab_rc m0 11 l1).bind fun _ =>
        (dd_X11_fewestHosts l1 m0).bind fun q125 =>
        (ab_rc q125.2 12 l2).bind fun _ =>
        (dd_X12_fewestHosts l2 q125.2).bind fun q126 =>
        if q125.1 = q126.1 then
          bb_L_law_2330 Ln xs (bb_L_law_23 Ln xs n) l1 l2 l3 l4 q126.2
        else
          some ((0 : Int32), q126.2)
      else if ((xs l4.toNatClampNeg) &&& (63 : Int32)) = (25 : Int32) then
        if ((l4 + (1 : Int32)) < 0 ∨ Ln ≤ (l4 + (1 : Int32)).toNatClampNeg) then none else
        if ((l4 + (2 : Int32)) < 0 ∨ Ln ≤ (l4 + (2 : Int32)).toNatClampNeg) then none else
        (dd_L_cheapestEviction l1 (xs (l4 + (1 : Int32)).toNatClampNeg) (xs (l4 + (2 : Int32)).toNatClampNeg) l3 m0).bind fun q129 =>
        if ((l4 + (1 : Int32)) < 0 ∨ Ln ≤ (l4 + (1 : Int32)).toNatClampNeg) then none else
        if ((l4 + (2 : Int32)) < 0 ∨ Ln ≤ (l4 + (2 : Int32)).toNatClampNeg) then none else
        (ab_rc q129.2 12 l2).bind fun _ =>
        (dd_X12_cheapestEviction l2 (xs (l4 + (1 : Int32)).toNatClampNeg) (xs (l4 + (2 : Int32)).toNatClampNeg) q129.2).bind fun q132 =>
        (ab_rc q132.2 12 l2).bind fun _ =>
        (dd_X12_thrown l2 q132.2).bind fun q133 =>
        if q133.1 = q129.1 then
          if q129.1 = 0 then
            (ab_ldJ q133.2 l3 (0 : Int32)).bind fun v134 =>
            if (lg_cmp v134 q132.1.toInt64) = 0 then
              bb_L_law_1451 Ln xs (bb_L_law_23 Ln xs n) l1 l2 l3 l4 q133.2
            else
              some ((0 : Int32), q133.2)
          else
            bb_L_law_1451 Ln xs (bb_L_law_23 Ln xs n) l1 l2 l3 l4 q133.2
        else
          some ((0 : Int32), q133.2)
      else if ((xs l4.toNatClampNeg) &&& (63 : Int32)) = (26 : Int32) then
        if ((l4 + (1 : Int32)) < 0 ∨ Ln ≤ (l4 + (1 : Int32)).toNatClampNeg) then none else
        (dd_L_migrationCost l1 (xs (l4 + (1 : Int32)).toNatClampNeg) l3 m0).bind fun q136 =>
        if ((l4 + (1 : Int32)) < 0 ∨ Ln ≤ (l4 + (1 : Int32)).toNatClampNeg) then none else
        (ab_rc q136.2 12 l2).bind fun _ =>
        (dd_X12_migrationCost l2 (xs (l4 + (1 : Int32)).toNatClampNeg) q136.2).bind fun q138 =>
        (ab_rc q138.2 12 l2).bind fun _ =>
        (dd_X12_thrown l2 q138.2).bind fun q139 =>
        if q139.1 = q136.1 then
          if q136.1 = 0 then
            (ab_ldJ q139.2 l3 (0 : Int32)).bind fun v140 =>
            if (lg_cmp v140 q138.1.toInt64) = 0 then
              bb_L_law_1507 Ln xs (bb_L_law_23 Ln xs n) l1 l2 l3 l4 q139.2
            else
              some ((0 : Int32), q139.2)
          else
            bb_L_law_1507 Ln xs (bb_L_law_23 Ln xs n) l1 l2 l3 l4 q139.2
        else
          some ((0 : Int32), q139.2)
      else if ((xs l4.toNatClampNeg) &&& (63 : Int32)) = (27 : Int32) then
        if ((l4 + (1 : Int32)) < 0 ∨ Ln ≤ (l4 + (1 : Int32)).toNatClampNeg) then none else
        if ((l4 + (2 : Int32)) < 0 ∨ Ln ≤ (l4 + (2 : Int32)).toNatClampNeg) then none else
        (dd_L_drainTo l1 (xs (l4 + (1 : Int32)).toNatClampNeg) (xs (l4 + (2 : Int32)).toNatClampNeg) l3 m0).bind fun q143 =>
        if ((l4 + (1 : Int32)) < 0 ∨ Ln ≤ (l4 + (1 : Int32)).toNatClampNeg) then none else
        if ((l4 + (2 : Int32)) < 0 ∨ Ln ≤ (l4 + (2 : Int32)).toNatClampNeg) then none else
        (ab_rc q143.2 12 l2).bind fun _ =>
        (dd_X12_drainTo l2 (xs (l4 + (1 : Int32)).toNatClampNeg) (xs (l4 + (2 : Int32)).toNatClampNeg) q143.2).bind fun q146 =>
        (ab_rc q146.2 12 l2).bind fun _ =>
        (dd_X12_thrown l2 q146.2).bind fun q147 =>
        if q147.1 = q143.1 then
          if q143.1 = 0 then
            (ab_ldJ q147.2 l3 (0 : Int32)).bind fun v148 =>
            if (lg_cmp v148 q146.1.toInt64) = 0 then
              bb_L_law_1575 Ln xs (bb_L_law_23 Ln xs n) l1 l2 l3 l4 q147.2
            else
              some ((0 : Int32), q147.2)
          else
            bb_L_law_1575 Ln xs (bb_L_law_23 Ln xs n) l1 l2 l3 l4 q147.2
        else
          some ((0 : Int32), q147.2)
      else if ((xs l4.toNatClampNeg) &&& (63 : Int32)) = (28 : Int32) then
        if ((l4 + (1 : Int32)) < 0 ∨ Ln ≤ (l4 + (1 : Int32)).toNatClampNeg) then none else
        if ((l4 + (2 : Int32)) < 0 ∨ Ln ≤ (l4 + (2 : Int32)).toNatClampNeg) then none else
        (dd_L_priceAfter l1 (xs (l4 + (1 : Int32)).toNatClampNeg) (xs (l4 + (2 : Int32)).toNatClampNeg) l3 m0).bind fun q151 =>
        if ((l4 + (1 : Int32)) < 0 ∨ Ln ≤ (l4 + (1 : Int32)).toNatClampNeg) then none else
        if ((l4 + (2 : Int32)) < 0 ∨ Ln ≤ (l4 + (2 : Int32)).toNatClampNeg) then none else
        (ab_rc q151.2 12 l2).bind fun _ =>
        (dd_X12_priceAfter l2 (xs (l4 + (1 : Int32)).toNatClampNeg) (xs (l4 + (2 : Int32)).toNatClampNeg) q151.2).bind fun q154 =>
        (ab_rc q154.2 12 l2).bind fun _ =>
        (dd_X12_thrown l2 q154.2).bind fun q155 =>
        if q155.1 = q151.1 then
          if q151.1 = 0 then
            (ab_ldJ q155.2 l3 (0 : Int32)).bind fun v156 =>
            if (lg_cmp v156 q154.1.toInt64) = 0 then
              bb_L_law_1643 Ln xs (bb_L_law_23 Ln xs n) l1 l2 l3 l4 q155.2
            else
              some ((0 : Int32), q155.2)
          else
            bb_L_law_1643 Ln xs (bb_L_law_23 Ln xs n) l1 l2 l3 l4 q155.2
        else
          some ((0 : Int32), q155.2)
      else if ((xs l4.toNatClampNeg) &&& (63 : Int32)) = (29 : Int32) then
        if ((l4 + (1 : Int32)) < 0 ∨ Ln ≤ (l4 + (1 : Int32)).toNatClampNeg) then none else
        (dd_L_evictedAfter l1 (xs (l4 + (1 : Int32)).toNatClampNeg) l3 m0).bind fun q158 =>
        if ((l4 + (1 : Int32)) < 0 ∨ Ln ≤ (l4 + (1 : Int32)).toNatClampNeg) then none else
        (ab_rc q158.2 12 l2).bind fun _ =>
        (dd_X12_evictedAfter l2 (xs (l4 + (1 : Int32)).toNatClampNeg) q158.2).bind fun q160 =>
        (ab_rc q160.2 12 l2).bind fun _ =>
        (dd_X12_thrown l2 q160.2).bind fun q161 =>
        if q161.1 = q158.1 then
          if q158.1 = 0 then
            (ab_ldJ q161.2 l3 (0 : Int32)).bind fun v162 =>
            if (lg_cmp v162 q160.1.toInt64) = 0 then
              bb_L_law_1699 Ln xs (bb_L_law_23 Ln xs n) l1 l2 l3 l4 q161.2
            else
              some ((0 : Int32), q161.2)
          else
            bb_L_law_1699 Ln xs (bb_L_law_23 Ln xs n) l1 l2 l3 l4 q161.2
        else
          some ((0 : Int32), q161.2)
      else if ((xs l4.toNatClampNeg) &&& (63 : Int32)) = (30 : Int32) then
        if ((l4 + (1 : Int32)) < 0 ∨ Ln ≤ (l4 + (1 : Int32)).toNatClampNeg) then none else
        (dd_L_pass l1 (xs (l4 + (1 : Int32)).toNatClampNeg) l3 m0).bind fun q164 =>
        if ((l4 + (1 : Int32)) < 0 ∨ Ln ≤ (l4 + (1 : Int32)).toNatClampNeg) then none else
        (ab_rc q164.2 12 l2).bind fun _ =>
        (dd_X12_pass l2 (xs (l4 + (1 : Int32)).toNatClampNeg) q164.2).bind fun q166 =>
        (ab_rc q166.2 12 l2).bind fun _ =>
        (dd_X12_thrown l2 q166.2).bind fun q167 =>
        if q167.1 = q164.1 then
          if q164.1 = 0 then
            (ab_ldJ q167.2 l3 (0 : Int32)).bind fun v168 =>
            if (lg_cmp v168 q166.1.toInt64) = 0 then
              bb_L_law_1755 Ln xs (bb_L_law_23 Ln xs n) l1 l2 l3 l4 q167.2
            else
              some ((0 : Int32), q167.2)
          else
            bb_L_law_1755 Ln xs (bb_L_law_23 Ln xs n) l1 l2 l3 l4 q167.2
        else
          some ((0 : Int32), q167.2)
      else if ((xs l4.toNatClampNeg) &&& (63 : Int32)) = (31 : Int32) then
        if ((l4 + (1 : Int32)) < 0 ∨ Ln ≤ (l4 + (1 : Int32)).toNatClampNeg) then none else
        if ((l4 + (2 : Int32)) < 0 ∨ Ln ≤ (l4 + (2 : Int32)).toNatClampNeg) then none else
        (dd_L_launch l1 (xs (l4 + (1 : Int32)).toNatClampNeg) (xs (l4 + (2 : Int32)).toNatClampNeg) l3 m0).bind fun q171 =>
        if ((l4 + (1 : Int32)) < 0 ∨ Ln ≤ (l4 + (1 : Int32)).toNatClampNeg) then none else
        if ((l4 + (2 : Int32)) < 0 ∨ Ln ≤ (l4 + (2 : Int32)).toNatClampNeg) then none else
        (ab_rc q171.2 12 l2).bind fun _ =>
        (dd_X12_launch l2 (xs (l4 + (1 : Int32)).toNatClampNeg) (xs (l4 + (2 : Int32)).toNatClampNeg) q171.2).bind fun q174 =>
        (ab_rc q174.2 12 l2).bind fun _ =>
        (dd_X12_thrown l2 q174.2).bind fun q175 =>
        if q175.1 = q171.1 then
          if q171.1 = 0 then
            (ab_ldJ q175.2 l3 (0 : Int32)).bind fun v176 =>
            if (lg_cmp v176 q174.1.toInt64) = 0 then
              bb_L_law_1823 Ln xs (bb_L_law_23 Ln xs n) l1 l2 l3 l4 q175.2
            else
              some ((0 : Int32), q175.2)
          else
            bb_L_law_1823 Ln xs (bb_L_law_23 Ln xs n) l1 l2 l3 l4 q175.2
        else
          some ((0 : Int32), q175.2)
      else if ((xs l4.toNatClampNeg) &&& (63 : Int32)) = (32 : Int32) then
        if ((l4 + (1 : Int32)) < 0 ∨ Ln ≤ (l4 + (1 : Int32)).toNatClampNeg) then none else
        if ((l4 + (2 : Int32)) < 0 ∨ Ln ≤ (l4 + (2 : Int32)).toNatClampNeg) then none else
        if ((l4 + (3 : Int32)) < 0 ∨ Ln ≤ (l4 + (3 : Int32)).toNatClampNeg) then none else
        (dd_L_bid l1 (xs (l4 + (1 : Int32)).toNatClampNeg) (xs (l4 + (2 : Int32)).toNatClampNeg) (xs (l4 + (3 : Int32)).toNatClampNeg) l3 m0).bind fun q180 =>
        if ((l4 + (1 : Int32)) < 0 ∨ Ln ≤ (l4 + (1 : Int32)).toNatClampNeg) then none else
        if ((l4 + (2 : Int32)) < 0 ∨ Ln ≤ (l4 + (2 : Int32)).toNatClampNeg) then none else
        if ((l4 + (3 : Int32)) < 0 ∨ Ln ≤ (l4 + (3 : Int32)).toNatClampNeg) then none else
        (ab_rc q180.2 12 l2).bind fun _ =>
        (dd_X12_bid l2 (xs (l4 + (1 : Int32)).toNatClampNeg) (xs (l4 + (2 : Int32)).toNatClampNeg) (xs (l4 + (3 : Int32)).toNatClampNeg) q180.2).bind fun q184 =>
        (ab_rc q184.2 12 l2).bind fun _ =>
        (dd_X12_thrown l2 q184.2).bind fun q185 =>
        if q185.1 = q180.1 then
          if q180.1 = 0 then
            (ab_ldJ q185.2 l3 (0 : Int32)).bind fun v186 =>
            if (lg_cmp v186 q184.1.toInt64) = 0 then
              bb_L_law_1903 Ln xs (bb_L_law_23 Ln xs n) l1 l2 l3 l4 q185.2
            else
              some ((0 : Int32), q185.2)
          else
            bb_L_law_1903 Ln xs (bb_L_law_23 Ln xs n) l1 l2 l3 l4 q185.2
        else
          some ((0 : Int32), q185.2)
      else if ((xs l4.toNatClampNeg) &&& (63 : Int32)) = (33 : Int32) then
        if ((l4 + (1 : Int32)) < 0 ∨ Ln ≤ (l4 + (1 : Int32)).toNatClampNeg) then none else
        (dd_L_withdraw l1 (xs (l4 + (1 : Int32)).toNatClampNeg) l3 m0).bind fun q188 =>
        if ((l4 + (1 : Int32)) < 0 ∨ Ln ≤ (l4 + (1 : Int32)).toNatClampNeg) then none else
        (ab_rc q188.2 12 l2).bind fun _ =>
        (dd_X12_withdraw l2 (xs (l4 + (1 : Int32)).toNatClampNeg) q188.2).bind fun q190 =>
        (ab_rc q190.2 12 l2).bind fun _ =>
        (dd_X12_thrown l2 q190.2).bind fun q191 =>
        if q191.1 = q188.1 then
          if q188.1 = 0 then
            (ab_ldJ q191.2 l3 (0 : Int32)).bind fun v192 =>
            if (lg_cmp v192 q190.1.toInt64) = 0 then
              bb_L_law_1959 Ln xs (bb_L_law_23 Ln xs n) l1 l2 l3 l4 q191.2
            else
              some ((0 : Int32), q191.2)
          else
            bb_L_law_1959 Ln xs (bb_L_law_23 Ln xs n) l1 l2 l3 l4 q191.2
        else
          some ((0 : Int32), q191.2)
      else if ((xs l4.toNatClampNeg) &&& (63 : Int32)) = (34 : Int32) then
        if ((l4 + (1 : Int32)) < 0 ∨ Ln ≤ (l4 + (1 : Int32)).toNatClampNeg) then none else
        (dd_L_stop l1 (xs (l4 + (1 : Int32)).toNatClampNeg) l3 m0).bind fun q194 =>
        if ((l4 + (1 : Int32)) < 0 ∨ Ln ≤ (l4 + (1 : Int32)).toNatClampNeg) then none else
        (ab_rc q194.2 12 l2).bind fun _ =>
        (dd_X12_stop l2 (xs (l4 + (1 : Int32)).toNatClampNeg) q194.2).bind fun q196 =>
        (ab_rc q196.2 12 l2).bind fun _ =>
        (dd_X12_thrown l2 q196.2).bind fun q197 =>
        if q197.1 = q194.1 then
          if q194.1 = 0 then
            (ab_ldJ q197.2 l3 (0 : Int32)).bind fun v198 =>
            if (lg_cmp v198 q196.1.toInt64) = 0 then
              bb_L_law_2015 Ln xs (bb_L_law_23 Ln xs n) l1 l2 l3 l4 q197.2
            else
              some ((0 : Int32), q197.2)
          else
            bb_L_law_2015 Ln xs (bb_L_law_23 Ln xs n) l1 l2 l3 l4 q197.2
        else
          some ((0 : Int32), q197.2)
      else if ((xs l4.toNatClampNeg) &&& (63 : Int32)) = (35 : Int32) then
        if ((l4 + (1 : Int32)) < 0 ∨ Ln ≤ (l4 + (1 : Int32)).toNatClampNeg) then none else
        (dd_L_evict l1 (xs (l4 + (1 : Int32)).toNatClampNeg) l3 m0).bind fun q200 =>
        if ((l4 + (1 : Int32)) < 0 ∨ Ln ≤ (l4 + (1 : Int32)).toNatClampNeg) then none else
        (ab_rc q200.2 12 l2).bind fun _ =>
        (dd_X12_evict l2 (xs (l4 + (1 : Int32)).toNatClampNeg) q200.2).bind fun q202 =>
        (ab_rc q202.2 12 l2).bind fun _ =>
        (dd_X12_thrown l2 q202.2).bind fun q203 =>
        if q203.1 = q200.1 then
          if q200.1 = 0 then
            (ab_ldJ q203.2 l3 (0 : Int32)).bind fun v204 =>
            if (lg_cmp v204 q202.1.toInt64) = 0 then
              bb_L_law_2071 Ln xs (bb_L_law_23 Ln xs n) l1 l2 l3 l4 q203.2
            else
              some ((0 : Int32), q203.2)
          else
            bb_L_law_2071 Ln xs (bb_L_law_23 Ln xs n) l1 l2 l3 l4 q203.2
        else
          some ((0 : Int32), q203.2)
      else if ((xs l4.toNatClampNeg) &&& (63 : Int32)) = (36 : Int32) then
        if ((l4 + (1 : Int32)) < 0 ∨ Ln ≤ (l4 + (1 : Int32)).toNatClampNeg) then none else
        if ((l4 + (2 : Int32)) < 0 ∨ Ln ≤ (l4 + (2 : Int32)).toNatClampNeg) then none else
        (dd_L_migrate l1 (xs (l4 + (1 : Int32)).toNatClampNeg) (xs (l4 + (2 : Int32)).toNatClampNeg) l3 m0).bind fun q207 =>
        if ((l4 + (1 : Int32)) < 0 ∨ Ln ≤ (l4 + (1 : Int32)).toNatClampNeg) then none else
        if ((l4 + (2 : Int32)) < 0 ∨ Ln ≤ (l4 + (2 : Int32)).toNatClampNeg) then none else
        (ab_rc q207.2 12 l2).bind fun _ =>
        (dd_X12_migrate l2 (xs (l4 + (1 : Int32)).toNatClampNeg) (xs (l4 + (2 : Int32)).toNatClampNeg) q207.2).bind fun q210 =>
        (ab_rc q210.2 12 l2).bind fun _ =>
        (dd_X12_thrown l2 q210.2).bind fun q211 =>
        if q211.1 = q207.1 then
          if q207.1 = 0 then
            (ab_ldJ q211.2 l3 (0 : Int32)).bind fun v212 =>
            if (lg_cmp v212 q210.1.toInt64) = 0 then
              bb_L_law_2139 Ln xs (bb_L_law_23 Ln xs n) l1 l2 l3 l4 q211.2
            else
              some ((0 : Int32), q211.2)
          else
            bb_L_law_2139 Ln xs (bb_L_law_23 Ln xs n) l1 l2 l3 l4 q211.2
        else
          some ((0 : Int32), q211.2)
      else if ((xs l4.toNatClampNeg) &&& (63 : Int32)) = (37 : Int32) then
        if ((l4 + (1 : Int32)) < 0 ∨ Ln ≤ (l4 + (1 : Int32)).toNatClampNeg) then none else
        (dd_L_drain l1 (xs (l4 + (1 : Int32)).toNatClampNeg) l3 m0).bind fun q214 =>
        if ((l4 + (1 : Int32)) < 0 ∨ Ln ≤ (l4 + (1 : Int32)).toNatClampNeg) then none else
        (ab_rc q214.2 12 l2).bind fun _ =>
        (dd_X12_drain l2 (xs (l4 + (1 : Int32)).toNatClampNeg) q214.2).bind fun q216 =>
        (ab_rc q216.2 12 l2).bind fun _ =>
        (dd_X12_thrown l2 q216.2).bind fun q217 =>
        if q217.1 = q214.1 then
          if q214.1 = 0 then
            (ab_ldJ q217.2 l3 (0 : Int32)).bind fun v218 =>
            if (lg_cmp v218 q216.1.toInt64) = 0 then
              bb_L_law_2195 Ln xs (bb_L_law_23 Ln xs n) l1 l2 l3 l4 q217.2
            else
              some ((0 : Int32), q217.2)
          else
            bb_L_law_2195 Ln xs (bb_L_law_23 Ln xs n) l1 l2 l3 l4 q217.2
        else
          some ((0 : Int32), q217.2)
      else if ((xs l4.toNatClampNeg) &&& (63 : Int32)) = (38 : Int32) then
        (ab_rc m0 11 l1).bind fun _ =>
        (dd_X11_undo l1 m0).bind fun q219 =>
        (ab_rc q219.2 12 l2).bind fun _ =>
        (dd_X12_undo l2 q219.2).bind fun q220 =>
        if q219.1 = q220.1 then
          bb_L_law_2330 Ln xs (bb_L_law_23 Ln xs n) l1 l2 l3 l4 q220.2
        else
          some ((0 : Int32), q220.2)
      else if ((xs l4.toNatClampNeg) &&& (63 : Int32)) = (39 : Int32) then
        if ((l4 + (1 : Int32)) < 0 ∨ Ln ≤ (l4 + (1 : Int32)).toNatClampNeg) then none else
        (dd_L_saveSnapshot l1 (xs (l4 + (1 : Int32)).toNatClampNeg) l3 m0).bind fun q222 =>
        if ((l4 + (1 : Int32)) < 0 ∨ Ln ≤ (l4 + (1 : Int32)).toNatClampNeg) then none else
        (ab_rc q222.2 12 l2).bind fun _ =>
        (dd_X12_saveSnapshot l2 (xs (l4 + (1 : Int32)).toNatClampNeg) q222.2).bind fun q224 =>
        (ab_rc q224.2 12 l2).bind fun _ =>
        (dd_X12_thrown l2 q224.2).bind fun q225 =>
        if q225.1 = q222.1 then
          if q222.1 = 0 then
            (ab_ldJ q225.2 l3 (0 : Int32)).bind fun v226 =>
            if q224.1 = 0 then
              bb_L_law_2265 Ln xs (bb_L_law_23 Ln xs n) l1 l2 l3 l4 v226 (0 : Int64) q225.2
            else
              bb_L_law_2265 Ln xs (bb_L_law_23 Ln xs n) l1 l2 l3 l4 v226 (1 : Int64) q225.2
          else
            bb_L_law_2271 Ln xs (bb_L_law_23 Ln xs n) l1 l2 l3 l4 q225.2
        else
          some ((0 : Int32), q225.2)
      else if ((xs l4.toNatClampNeg) &&& (63 : Int32)) = (40 : Int32) then
        if ((l4 + (1 : Int32)) < 0 ∨ Ln ≤ (l4 + (1 : Int32)).toNatClampNeg) then none else
        (dd_L_restoreSnapshot l1 (xs (l4 + (1 : Int32)).toNatClampNeg) l3 m0).bind fun q228 =>
        if ((l4 + (1 : Int32)) < 0 ∨ Ln ≤ (l4 + (1 : Int32)).toNatClampNeg) then none else
        (ab_rc q228.2 12 l2).bind fun _ =>
        (dd_X12_restoreSnapshot l2 (xs (l4 + (1 : Int32)).toNatClampNeg) q228.2).bind fun q230 =>
        (ab_rc q230.2 12 l2).bind fun _ =>
        (dd_X12_thrown l2 q230.2).bind fun q231 =>
        if q231.1 = q228.1 then
          if q228.1 = 0 then
            (ab_ldJ q231.2 l3 (0 : Int32)).bind fun v232 =>
            if (lg_cmp v232 q230.1.toInt64) = 0 then
              bb_L_law_2327 Ln xs (bb_L_law_23 Ln xs n) l1 l2 l3 l4 q231.2
            else
              some ((0 : Int32), q231.2)
          else
            bb_L_law_2327 Ln xs (bb_L_law_23 Ln xs n) l1 l2 l3 l4 q231.2
        else
          some ((0 : Int32), q231.2)
      else 
        bb_L_law_2330 Ln xs (bb_L_law_23 Ln xs n) l1 l2 l3 l4 m0
def dd_L_law  (Ln : Nat) (xs : Nat → Int32)  (m0 : ab_Mm) : Option (Int32 × ab_Mm) :=
  (ab_nw m0 (0, 11, [some none, some none, some none, some none, some none, some none, some none, some none, some none])).bind fun q1 =>
  (dd_X11_init q1.1 q1.2).bind fun q2 =>
  (ab_nw q2.2 (0, 12, [none, some none, some none, some none, some none, some none, some none, some none, some none, some none, none, none, none, none, none, none, none, none, none, none, none, some none, some none, some none, some none, some none, some none, none, some none, none, some none, some none, some none])).bind fun q3 =>
  (dd_X12_init q3.1 q3.2).bind fun q4 =>
  (ab_na q4.2 4 (1 : Int32)).bind fun q5 =>
  bb_L_law_23 Ln xs ab_fu q1.1 q3.1 q5.1 (0 : Int32) q5.2
