/-! written by program: methods as functions of the flat memory -/
def fX5_clearText  (m : gM) : Option (gM × Int32) := gCl (fX4_empty m) fun m2 x3 => some (m2, x3)
abbrev rmX5_clearText : Room := { frames := 1, cells := 0, slots := 0, locals := 21 }
def fX5_errorPosition  (m : gM) : Option (gM × Int32) := gCl (fX4_firstError m) fun m2 x3 => some (m2, x3)
abbrev rmX5_errorPosition : Room := { frames := 5, cells := 0, slots := 0, locals := 108 }
def fX5_append (p1 : Int32) (m : gM) : Option (gM × Nat × Int32) := gCl (fX5_isWithin p1 0 255 m) fun m1 x2 => gDem 2 x2 m1 <| gLt (m1 (6 + 1)) fun x6 => gLt ((if 120 ≤ x6 then 0 else 1) : Int32) fun x7 => gDem 3 x7 m1 <| gCl (fX4_add ((p1.toUInt32 % 65536).toInt32) m1) fun m12 x13 => some (m12, 0, x13)
abbrev rmX5_append : Room := { frames := 7, cells := 0, slots := 0, locals := 102 }
abbrev rmX5_appendT : Room := { frames := 7, cells := 1, slots := 6, locals := 102 }
def fX5_load_L57 (r35 : Int32 → gM → Option (gM × Nat × Int32)) : Nat → Int32 → Int32 → gM → Option (gM × Nat × Int32)
  | 0, _, _, _ => none
  | n + 1, v1, v2, m => gLt (m (6 + 1)) fun x18 => (if x18 ≤ v2 then some (m, 0, v1) else gCl (fX4_doCommand v2 128 m) fun m21 x22 => gLt (fun (x24 : Int32) => gCl (fX4_formLength v2 m21) fun m28 x29 => gLt ((v2 + (1 + x29))) fun x31 => fX5_load_L57 r35 n x24 x31 m28) fun k25 => (if x22 = (-1) then gLt (v1 + 1) fun x32 => k25 x32 else k25 v1))
def fX5_load_L35  : Nat → Int32 → gM → Option (gM × Nat × Int32)
  | 0, _, _ => none
  | n + 1, v1, m => (if 2 ≤ v1 then fX5_load_L57 (fX5_load_L35 n) gFU 0 1 m else gWr m 5075 2 v1 (vp_nar .boolean 0) fun m56 => gLt (v1 + 1) fun x57 => fX5_load_L35 n x57 m56)
def fX5_load  (m : gM) : Option (gM × Nat × Int32) := gCl (fX4_firstError m) fun m2 x3 => gLt ((if x3 = (-1) then 1 else 0) : Int32) fun x5 => gDem 3 x5 m2 <| gCv (fX0_makeNew 128 m2) fun m10 => gCv (fX2_forgetAll m10) fun m14 => fX5_load_L35 gFU 0 m14
abbrev rmX5_load : Room := { frames := 7, cells := 0, slots := 0, locals := 142 }
abbrev rmX5_loadT : Room := { frames := 7, cells := 1, slots := 6, locals := 142 }
def fX5_about (p1 : Int32) (m : gM) : Option (gM × Nat × Int32) := gCl (fX5_isWithin p1 0 12 m) fun m1 x2 => gDem 2 x2 m1 <| gCl (fX0_numberOf 128 p1 m1) fun m6 x7 => some (m6, 0, x7)
abbrev rmX5_about : Room := { frames := 7, cells := 0, slots := 0, locals := 102 }
abbrev rmX5_aboutT : Room := { frames := 7, cells := 1, slots := 6, locals := 102 }
def fX5_customerOf (p1 : Int32) (p2 : Int32) (m : gM) : Option (gM × Nat × Int32) := gCl (fX0_hasCustomer 128 p1 m) fun m2 x3 => gDem 1 x3 m2 <| gCl (fX5_isWithin p2 0 10 m2) fun m6 x7 => gDem 2 x7 m6 <| (if p2 = 9 then gEl 10 p1 fun c13 => gLt (m6 (128 + 1)) fun x16 => gCl (fX1_dueOn ((128 + 11) + 57 + 24 * c13) x16 m6) fun m17 x18 => some (m17, 0, x18) else (if p2 = 10 then gEl 10 p1 fun c23 => gLt (m6 (128 + 1)) fun x26 => gCl (fX1_nextDueDay ((128 + 11) + 57 + 24 * c23) x26 m6) fun m27 x28 => some (m27, 0, x28) else gEl 10 p1 fun c32 => gCl (fX1_numberOf ((128 + 11) + 57 + 24 * c32) p2 m6) fun m34 x35 => some (m34, 0, x35)))
abbrev rmX5_customerOf : Room := { frames := 7, cells := 0, slots := 0, locals := 102 }
abbrev rmX5_customerOfT : Room := { frames := 7, cells := 1, slots := 6, locals := 102 }
def fX5_ordered (p1 : Int32) (p2 : Int32) (m : gM) : Option (gM × Nat × Int32) := gCl (fX0_hasCustomer 128 p1 m) fun m2 x3 => gLt (fun (x5 : Int32) (m6 : gM) => gDem 1 x5 m6 <| gEl 10 p1 fun c12 => gRd m6 (((128 + 11) + 57 + 24 * c12) + 11) 7 p2 fun x15 => some (m6, 0, x15)) fun k7 => (if x3 = 0 then k7 0 m2 else gCl (fX5_isWeekday p2 m2) fun m16 x17 => (if x17 = 0 then k7 0 m16 else k7 1 m16))
abbrev rmX5_ordered : Room := { frames := 7, cells := 0, slots := 0, locals := 102 }
abbrev rmX5_orderedT : Room := { frames := 7, cells := 1, slots := 6, locals := 102 }
def fX5_away (p1 : Int32) (p2 : Int32) (p3 : Int32) (m : gM) : Option (gM × Nat × Int32) := gCl (fX0_hasCustomer 128 p1 m) fun m2 x3 => gLt (fun (x5 : Int32) (m6 : gM) => gDem 1 x5 m6 <| gCl (fX5_isWithin p3 0 1 m6) fun m10 x11 => gDem 2 x11 m10 <| gEl 10 p1 fun c16 => gLt (m10 (((128 + 11) + 57 + 24 * c16) + 7)) fun x18 => (if p2 < x18 then (if p3 = 0 then gRd m10 (((128 + 11) + 57 + 24 * c16) + 18) 3 p2 fun x22 => some (m10, 0, x22) else gRd m10 (((128 + 11) + 57 + 24 * c16) + 21) 3 p2 fun x20 => some (m10, 0, x20)) else some (m10, 0, (-1)))) fun k7 => (if x3 = 0 then k7 0 m2 else gCl (fX5_isWithin p2 0 2 m2) fun m23 x24 => (if x24 = 0 then k7 0 m23 else k7 1 m23))
abbrev rmX5_away : Room := { frames := 7, cells := 0, slots := 0, locals := 102 }
abbrev rmX5_awayT : Room := { frames := 7, cells := 1, slots := 6, locals := 102 }
def fX5_isClosed (p1 : Int32) (p2 : Int32) (m : gM) : Option (gM × Nat × Int32) := gCl (fX5_isStreet p1 m) fun m1 x2 => gLt (fun (x4 : Int32) (m5 : gM) => gDem 1 x4 m5 <| gCl (fX0_isShut 128 p1 p2 m5) fun m10 x11 => (if x11 = 0 then some (m10, 0, 0) else some (m10, 0, 1))) fun k6 => (if x2 = 0 then k6 0 m1 else gCl (fX5_isWeekday p2 m1) fun m13 x14 => (if x14 = 0 then k6 0 m13 else k6 1 m13))
abbrev rmX5_isClosed : Room := { frames := 7, cells := 0, slots := 0, locals := 102 }
abbrev rmX5_isClosedT : Room := { frames := 7, cells := 1, slots := 6, locals := 102 }
def fX5_round (p1 : Int32) (m : gM) : Option (gM × Nat × Int32) := gCl (fX5_isWithin p1 0 3 m) fun m1 x2 => gDem 1 x2 m1 <| gRd m1 (128 + 49) 4 p1 fun x7 => some (m1, 0, x7)
abbrev rmX5_round : Room := { frames := 7, cells := 0, slots := 0, locals := 102 }
abbrev rmX5_roundT : Room := { frames := 7, cells := 1, slots := 6, locals := 102 }
def fX5_setting (p1 : Int32) (m : gM) : Option (gM × Nat × Int32) := gCl (fX5_isSetting p1 m) fun m1 x2 => gDem 2 x2 m1 <| gRd m1 (128 + 53) 5 p1 fun x7 => some (m1, 0, x7)
abbrev rmX5_setting : Room := { frames := 7, cells := 0, slots := 0, locals := 102 }
abbrev rmX5_settingT : Room := { frames := 7, cells := 1, slots := 6, locals := 102 }
def fX5_due (p1 : Int32) (p2 : Int32) (p3 : Int32) (p4 : Int32) (m : gM) : Option (gM × Nat × Int32) := gCl (fX0_hasCustomer 128 p1 m) fun m2 x3 => gDem 1 x3 m2 <| gCl (fX5_isWithin p2 0 999 m2) fun m6 x7 => gDem 2 x7 m6 <| gCl (fX5_isWithin p3 0 500 m6) fun m10 x11 => gDem 2 x11 m10 <| gCl (fX5_isWithin p4 0 1 m10) fun m14 x15 => gDem 2 x15 m14 <| gEl 10 p1 fun c20 => (if p4 = 0 then gCl (fX1_dueDayByDay ((128 + 11) + 57 + 24 * c20) p2 p3 m14) fun m25 x26 => some (m25, 0, x26) else gCl (fX1_dueByWeeks ((128 + 11) + 57 + 24 * c20) p2 p3 m14) fun m22 x23 => some (m22, 0, x23))
abbrev rmX5_due : Room := { frames := 7, cells := 0, slots := 0, locals := 102 }
abbrev rmX5_dueT : Room := { frames := 7, cells := 1, slots := 6, locals := 102 }
def fX5_act (p1 : Int32) (p2 : Int32) (p3 : Int32) (p4 : Int32) (m : gM) : Option (gM × Nat × Int32) := gCl (fX0_refusalOf 128 p1 p2 p3 p4 m) fun m2 x3 => gOkE x3 <| gLt ((if x3 = 20001 then 0 else 1) : Int32) fun x6 => gDem 1 x6 m2 <| gLt ((if x3 = 20002 then 0 else 1) : Int32) fun x10 => gDem 2 x10 m2 <| gLt ((if x3 = 20003 then 0 else 1) : Int32) fun x14 => gDem 3 x14 m2 <| gCv (fX2_keep 128 m2) fun m20 => gCl (fX0_perform 128 p1 p2 p3 p4 m20) fun m24 x25 => some (m24, 0, x25)
abbrev rmX5_act : Room := { frames := 7, cells := 0, slots := 0, locals := 119 }
abbrev rmX5_actT : Room := { frames := 7, cells := 1, slots := 6, locals := 119 }
def fX5_customer (p1 : Int32) (p2 : Int32) (m : gM) : Option (gM × Nat × Int32) := gClX (fX5_act 0 p1 p2 0 m) fun m1 x2 => some (m1, 0, x2)
abbrev rmX5_customer : Room := { frames := 8, cells := 0, slots := 0, locals := 144 }
abbrev rmX5_customerT : Room := { frames := 8, cells := 1, slots := 6, locals := 144 }
def fX5_change (p1 : Int32) (p2 : Int32) (p3 : Int32) (m : gM) : Option (gM × Nat × Int32) := gClX (fX5_act 1 p1 p2 p3 m) fun m1 x2 => some (m1, 0, x2)
abbrev rmX5_change : Room := { frames := 8, cells := 0, slots := 0, locals := 144 }
abbrev rmX5_changeT : Room := { frames := 8, cells := 1, slots := 6, locals := 144 }
def fX5_holiday (p1 : Int32) (p2 : Int32) (p3 : Int32) (m : gM) : Option (gM × Nat × Int32) := gClX (fX5_act 2 p1 p2 p3 m) fun m1 x2 => some (m1, 0, x2)
abbrev rmX5_holiday : Room := { frames := 8, cells := 0, slots := 0, locals := 144 }
abbrev rmX5_holidayT : Room := { frames := 8, cells := 1, slots := 6, locals := 144 }
def fX5_drop (p1 : Int32) (p2 : Int32) (m : gM) : Option (gM × Nat × Int32) := gClX (fX5_act 3 p1 p2 0 m) fun m1 x2 => some (m1, 0, x2)
abbrev rmX5_drop : Room := { frames := 8, cells := 0, slots := 0, locals := 144 }
abbrev rmX5_dropT : Room := { frames := 8, cells := 1, slots := 6, locals := 144 }
def fX5_close (p1 : Int32) (p2 : Int32) (p3 : Int32) (m : gM) : Option (gM × Nat × Int32) := gLt ((if p3 = 0 then 0 else 1) : Int32) fun x1 => gClX (fX5_act 4 p1 p2 x1 m) fun m4 x5 => some (m4, 0, x5)
abbrev rmX5_close : Room := { frames := 8, cells := 0, slots := 0, locals := 144 }
abbrev rmX5_closeT : Room := { frames := 8, cells := 1, slots := 6, locals := 144 }
def fX5_swap (p1 : Int32) (p2 : Int32) (m : gM) : Option (gM × Nat × Int32) := gClX (fX5_act 5 p1 p2 0 m) fun m1 x2 => some (m1, 0, x2)
abbrev rmX5_swap : Room := { frames := 8, cells := 0, slots := 0, locals := 144 }
abbrev rmX5_swapT : Room := { frames := 8, cells := 1, slots := 6, locals := 144 }
def fX5_set (p1 : Int32) (p2 : Int32) (m : gM) : Option (gM × Nat × Int32) := gClX (fX5_act 6 p1 p2 0 m) fun m1 x2 => some (m1, 0, x2)
abbrev rmX5_set : Room := { frames := 8, cells := 0, slots := 0, locals := 144 }
abbrev rmX5_setT : Room := { frames := 8, cells := 1, slots := 6, locals := 144 }
def fX5_days (p1 : Int32) (m : gM) : Option (gM × Nat × Int32) := gClX (fX5_act 7 p1 0 0 m) fun m1 x2 => some (m1, 0, x2)
abbrev rmX5_days : Room := { frames := 8, cells := 0, slots := 0, locals := 144 }
abbrev rmX5_daysT : Room := { frames := 8, cells := 1, slots := 6, locals := 144 }
def fX5_undo  (m : gM) : Option (gM × Nat × Int32) := gLt (m (744 + 1)) fun x2 => gLt ((if x2 ≤ 0 then 0 else 1) : Int32) fun x3 => gDem 3 x3 m <| gCl (fX2_takeBack 128 m) fun m9 x10 => some (m9, 0, x10)
abbrev rmX5_undo : Room := { frames := 7, cells := 0, slots := 0, locals := 104 }
abbrev rmX5_undoT : Room := { frames := 7, cells := 1, slots := 6, locals := 104 }
def fX5_why (p1 : Int32) (m : gM) : Option (gM × Nat × Int32) := gCl (fX0_hasCustomer 128 p1 m) fun m2 x3 => gDem 1 x3 m2 <| gCl (fX0_reasonFor 128 p1 m2) fun m7 x8 => some (m7, 0, x8)
abbrev rmX5_why : Room := { frames := 7, cells := 0, slots := 0, locals := 113 }
abbrev rmX5_whyT : Room := { frames := 7, cells := 1, slots := 6, locals := 113 }
def fX5_creditIn (p1 : Int32) (p2 : Int32) (m : gM) : Option (gM × Nat × Int32) := gCl (fX0_hasCustomer 128 p1 m) fun m2 x3 => gDem 1 x3 m2 <| gCl (fX5_isWithin p2 0 200 m2) fun m6 x7 => gDem 2 x7 m6 <| gCv (fX0_copyFrom 436 128 m6) fun m12 => gCl (fX0_deliver 436 p2 m12) fun m16 x17 => gEl 10 p1 fun c21 => gLt (m16 (((436 + 11) + 57 + 24 * c21) + 1)) fun x23 => some (m16, 0, x23)
abbrev rmX5_creditIn : Room := { frames := 7, cells := 0, slots := 0, locals := 102 }
abbrev rmX5_creditInT : Room := { frames := 7, cells := 1, slots := 6, locals := 102 }
def fX5_clearIn_L24 (v1 : Int32) : Nat → Int32 → gM → Option (gM × Nat × Int32)
  | 0, _, _ => none
  | n + 1, v2, m => (if 200 < v2 then some (m, 0, (-1)) else gEl 10 v1 fun c13 => gLt (m (((436 + 11) + 57 + 24 * c13) + 1)) fun x15 => (if x15 = 0 then some (m, 0, v2) else gCl (fX0_deliver 436 1 m) fun m17 x18 => gLt (v2 + 1) fun x20 => fX5_clearIn_L24 v1 n x20 m17))
def fX5_clearIn (p1 : Int32) (m : gM) : Option (gM × Nat × Int32) := gCl (fX0_hasCustomer 128 p1 m) fun m2 x3 => gDem 1 x3 m2 <| gCv (fX0_copyFrom 436 128 m2) fun m8 => fX5_clearIn_L24 p1 gFU 0 m8
abbrev rmX5_clearIn : Room := { frames := 7, cells := 0, slots := 0, locals := 102 }
abbrev rmX5_clearInT : Room := { frames := 7, cells := 1, slots := 6, locals := 102 }
def fX5_leastOven_L20 (v1 : Int32) : Nat → Int32 → Int32 → gM → Option (gM × Nat × Int32)
  | 0, _, _, _ => none
  | n + 1, v2, v3, m => gLt (m (128 + 1)) fun x8 => (if (x8 + v1) ≤ v3 then some (m, 0, v2) else gCl (fX0_dueInOpenStreets 128 v3 m) fun m10 x11 => gLt (jmax v2 x11) fun x13 => gLt (v3 + 1) fun x14 => fX5_leastOven_L20 v1 n x13 x14 m10)
def fX5_leastOven (p1 : Int32) (m : gM) : Option (gM × Nat × Int32) := gCl (fX5_isWithin p1 1 60 m) fun m1 x2 => gDem 2 x2 m1 <| gLt (m1 (128 + 1)) fun x6 => fX5_leastOven_L20 p1 gFU 0 x6 m1
abbrev rmX5_leastOven : Room := { frames := 7, cells := 0, slots := 0, locals := 102 }
abbrev rmX5_leastOvenT : Room := { frames := 7, cells := 1, slots := 6, locals := 102 }
def fX5_bestRound_L17 (v1 : Int32) : Nat → Int32 → Int32 → Int32 → gM → Option (gM × Nat × Int32)
  | 0, _, _, _, _ => none
  | n + 1, v2, v3, v4, m => (if 256 ≤ v4 then some (m, 0, v2) else gCl (fX5_tellEachStreet v4 m) fun m5 x6 => gLt (fun (x8 : Int32) (x9 : Int32) (m10 : gM) => gLt (v4 + 1) fun x13 => fX5_bestRound_L17 v1 n x8 x9 x13 m10) fun k11 => (if x6 = 0 then k11 v2 v3 m5 else gCv (fX0_copyFrom 436 128 m5) fun m16 => gCv (fX0_takeOrder 436 v4 m16) fun m20 => gCl (fX0_deliver 436 v1 m20) fun m24 x25 => gCl (fX0_sumOf 436 2 m24) fun m28 x29 => (if v2 = (-1) then gCl (fX0_orderAsNumber 436 m28) fun m32 x33 => k11 x33 x29 m32 else (if v3 ≤ x29 then k11 v2 v3 m28 else gCl (fX0_orderAsNumber 436 m28) fun m36 x37 => k11 x37 x29 m36))))
def fX5_bestRound (p1 : Int32) (m : gM) : Option (gM × Nat × Int32) := gCl (fX5_isWithin p1 1 30 m) fun m1 x2 => gDem 2 x2 m1 <| fX5_bestRound_L17 p1 gFU (-1) 0 0 m1
abbrev rmX5_bestRound : Room := { frames := 7, cells := 0, slots := 0, locals := 102 }
abbrev rmX5_bestRoundT : Room := { frames := 7, cells := 1, slots := 6, locals := 102 }
def fX5_groupOf_L5 (v2 : Int32) : Nat → Int64 → Int32 → gM → Option (gM × Int32)
  | 0, _, _, _ => none
  | n + 1, v3, v5, m => (if v2 ≤ v5 then some (m, (v3 - v3 / 1000000 * 1000000).toInt32) else gLt (v5 + 1) fun x1 => fX5_groupOf_L5 v2 n (v3 / 1000000) x1 m)
def fX5_groupOf (p1 : Int64) (p2 : Int32) (m : gM) : Option (gM × Int32) := fX5_groupOf_L5 p2 gFU p1 0 m
abbrev rmX5_groupOf : Room := { frames := 0, cells := 0, slots := 0, locals := 0 }
def fX5_runScript_L70 (v1 : Int32) (v2 : Int64) (r15 : Int64 → Int32 → gM → Option (gM × Nat × Int32)) : Nat → Int32 → gM → Option (gM × Nat × Int32)
  | 0, _, _ => none
  | n + 1, v6, m => (if v1 ≤ v6 then some (m, 0, (-1)) else gCl (fX5_groupOf v2 ((v1 - 1) - v6) m) fun m15 x16 => gCl (fX5_succeeds x16 m15) fun m18 x19 => (if x19 = 0 then some (m18, 0, v6) else gLt (v6 + 1) fun x21 => fX5_runScript_L70 v1 v2 r15 n x21 m18))
def fX5_runScript_L15 (v1 : Int32) (v2 : Int64) : Nat → Int64 → Int32 → gM → Option (gM × Nat × Int32)
  | 0, _, _, _ => none
  | n + 1, v4, v6, m => (if v1 ≤ v6 then gLt ((if (lg_cmp v2 0) < 0 then 0 else (if 0 ≤ (lg_cmp v2 v4) then 0 else 1)) : Int32) fun x5 => gDem 2 x5 m <| gCv (fX0_copyFrom 436 128 m) fun m12 => fX5_runScript_L70 v1 v2 (fX5_runScript_L15 v1 v2 n) gFU 0 m12 else gLt (v6 + 1) fun x34 => fX5_runScript_L15 v1 v2 n (v4 * 1000000) x34 m)
def fX5_runScript (p1 : Int32) (p2 : Int64) (m : gM) : Option (gM × Nat × Int32) := gCl (fX5_isWithin p1 1 3 m) fun m1 x2 => gDem 2 x2 m1 <| fX5_runScript_L15 p1 p2 gFU 1 0 m1
abbrev rmX5_runScript : Room := { frames := 7, cells := 0, slots := 0, locals := 145 }
abbrev rmX5_runScriptT : Room := { frames := 7, cells := 1, slots := 6, locals := 145 }
def fX5_simulate_L27 (v3 : Int32) : Nat → Int64 → Int32 → gM → Option (gM × Nat × Int32)
  | 0, _, _, _ => none
  | n + 1, v4, v6, m => (if v3 ≤ v6 then gCl (fX0_sumOf 436 3 m) fun m11 x12 => gCl (fX0_sumOf 128 3 m11) fun m15 x16 => gLt ((x12 - x16)) fun x18 => gCl (fX0_sumOf 436 2 m15) fun m20 x21 => some (m20, 0, ((1000 * (x18 - x18 / 1000 * 1000)) + x21)) else gCv (fX5_takeTurn (((((v4 * 6364136223846793005) + 1442695040888963407).toUInt64 >>> ((33 : Int32).toInt64.toUInt64 &&& Int64.toUInt64 63)).toInt64).toInt32) m) fun m23 => gLt (v6 + 1) fun x26 => fX5_simulate_L27 v3 n ((v4 * 6364136223846793005) + 1442695040888963407) x26 m23)
def fX5_simulate (p1 : Int64) (p2 : Int32) (m : gM) : Option (gM × Nat × Int32) := gCl (fX5_isWithin p2 1 60 m) fun m1 x2 => gDem 2 x2 m1 <| gCv (fX0_copyFrom 436 128 m1) fun m7 => fX5_simulate_L27 p2 gFU p1 0 m7
abbrev rmX5_simulate : Room := { frames := 7, cells := 0, slots := 0, locals := 142 }
abbrev rmX5_simulateT : Room := { frames := 7, cells := 1, slots := 6, locals := 142 }
def fX5_save (p1 : Int32) (m : gM) : Option (gM × Nat × Int32) := gCl (fX5_isSlot p1 m) fun m1 x2 => gDem 1 x2 m1 <| gEl 2 p1 fun c6 => gCv (fX0_copyFrom (5077 + 308 * c6) 128 m1) fun m9 => gWr m9 5075 2 p1 (vp_nar .boolean 1) fun m13 => gLt (m13 (128 + 1)) fun x15 => some (m13, 0, x15)
abbrev rmX5_save : Room := { frames := 7, cells := 0, slots := 0, locals := 102 }
abbrev rmX5_saveT : Room := { frames := 7, cells := 1, slots := 6, locals := 102 }
def fX5_restore (p1 : Int32) (m : gM) : Option (gM × Nat × Int32) := gCl (fX5_isSlot p1 m) fun m1 x2 => gDem 1 x2 m1 <| gRd m1 5075 2 p1 fun x6 => gDem 3 x6 m1 <| gEl 2 p1 fun c10 => gCv (fX0_copyFrom 128 (5077 + 308 * c10) m1) fun m12 => gCv (fX2_forgetAll m12) fun m16 => gLt (m16 (128 + 1)) fun x20 => some (m16, 0, x20)
abbrev rmX5_restore : Room := { frames := 7, cells := 0, slots := 0, locals := 102 }
abbrev rmX5_restoreT : Room := { frames := 7, cells := 1, slots := 6, locals := 102 }
