/-! written by program: methods as functions of the flat memory -/
def fJ0_coder_7d493 (i0 : Nat) (m : gM) : Option (gM × Int32) := (if (1 : Int32) = 0 then gRz .byte 1 (some (m, 1)) else gRz .byte 0 (some (m, 0)))
abbrev rmJ0_coder_7d493 : Room := { frames := 0, cells := 0, slots := 0, locals := 0 }
def fJ0_length_8abf5 (i0 : Nat) (m : gM) : Option (gM × Int32) := gCl (fJ0_coder_7d493 i0 m) fun m1 x2 => some (m1, ((Int32.ofNat (gTlen.getD i0 0)) >>> (x2 &&& 31)))
abbrev rmJ0_length_8abf5 : Room := { frames := 1, cells := 0, slots := 0, locals := 20 }
def fJ0_isEmpty_aae02 (i0 : Nat) (m : gM) : Option (gM × Int32) := (if (Int32.ofNat (gTlen.getD i0 0)) = 0 then gRz .boolean 1 (some (m, 1)) else gRz .boolean 0 (some (m, 0)))
abbrev rmJ0_isEmpty_aae02 : Room := { frames := 0, cells := 0, slots := 0, locals := 0 }
def fJ0_isLatin1_aae02 (i0 : Nat) (m : gM) : Option (gM × Int32) := (if (1 : Int32) = 0 then gRz .boolean 0 (some (m, 0)) else (if (0 : Int32) = 0 then gRz .boolean 1 (some (m, 1)) else gRz .boolean 0 (some (m, 0))))
abbrev rmJ0_isLatin1_aae02 : Room := { frames := 0, cells := 0, slots := 0, locals := 0 }
def fJ3_checkIndex_8e157 (p1 : Int32) (p2 : Int32) (m : gM) : Option (gM × Int32) := (if p1 < 0 then none else (if p1 < p2 then some (m, p1) else none))
abbrev rmJ3_checkIndex_8e157 : Room := { frames := 0, cells := 0, slots := 0, locals := 0 }
def fJ0_checkIndex_df160 (p1 : Int32) (p2 : Int32) (m : gM) : Option (gM) := gCl (fJ3_checkIndex_8e157 p1 p2 m) fun m3 x4 => some m3
abbrev rmJ0_checkIndex_df160 : Room := { frames := 1, cells := 0, slots := 0, locals := 22 }
def fJ1_charAt_3b067 (i1 : Nat) (p2 : Int32) (m : gM) : Option (gM × Int32) := gCv (fJ0_checkIndex_df160 p2 (Int32.ofNat (gTlen.getD i1 0)) m) fun m1 => gTb2 i1 p2 fun x4 => gRz .char (((x4 &&& 255).toUInt32 % 65536).toInt32) (some (m1, ((x4 &&& 255).toUInt32 % 65536).toInt32))
abbrev rmJ1_charAt_3b067 : Room := { frames := 2, cells := 0, slots := 0, locals := 43 }
def fJ0_charAt_5068e (i0 : Nat) (p1 : Int32) (m : gM) : Option (gM × Int32) := gCl (fJ0_isLatin1_aae02 i0 m) fun m1 x2 => (if x2 = 0 then none else gCl (fJ1_charAt_3b067 i0 p1 m1) fun m4 x5 => gRz .char x5 (some (m4, x5)))
abbrev rmJ0_charAt_5068e : Room := { frames := 3, cells := 0, slots := 0, locals := 64 }
def fX0_makeNew_L53 (a0 : Nat) (r32 : Int32 → gM → Option (gM)) : Nat → Int32 → gM → Option (gM)
  | 0, _, _ => none
  | n + 1, v1, m => (if 4 ≤ v1 then gCpT gFirst m (a0 + 53) 5 0 0 5 fun m8 => some m8 else gWr m (a0 + 49) 4 v1 v1 fun m10 => gLt (v1 + 1) fun x11 => fX0_makeNew_L53 a0 r32 n x11 m10)
def fX0_makeNew_L32 (a0 : Nat) : Nat → Int32 → gM → Option (gM)
  | 0, _, _ => none
  | n + 1, v1, m => (if 28 ≤ v1 then fX0_makeNew_L53 a0 (fX0_makeNew_L32 a0 n) gFU 0 m else gWr m (a0 + 21) 28 v1 (vp_nar .boolean 0) fun m23 => gLt (v1 + 1) fun x24 => fX0_makeNew_L32 a0 n x24 m23)
def fX0_makeNew (a0 : Nat) (m : gM) : Option (gM) := gLt (upd m (a0 + 0) 0) fun m1 => gLt (upd m1 (a0 + 1) 0) fun m2 => gLt (upd m2 (a0 + 2) 0) fun m3 => gLt (upd m3 (a0 + 3) 0) fun m4 => gLt (upd m4 (a0 + 4) 0) fun m5 => gLt (upd m5 (a0 + 5) 0) fun m6 => fX0_makeNew_L32 a0 gFU 0 m6
abbrev rmX0_makeNew : Room := { frames := 1, cells := 0, slots := 0, locals := 40 }
def fX1_copyFrom (a0 : Nat) (a1 : Nat) (m : gM) : Option (gM) := gLt (m (a1 + 0)) fun x1 => gLt (upd m (a0 + 0) x1) fun m2 => gLt (m2 (a1 + 1)) fun x3 => gLt (upd m2 (a0 + 1) x3) fun m4 => gLt (m4 (a1 + 2)) fun x5 => gLt (upd m4 (a0 + 2) x5) fun m6 => gLt (m6 (a1 + 3)) fun x7 => gLt (upd m6 (a0 + 3) x7) fun m8 => gLt (m8 (a1 + 4)) fun x9 => gLt (upd m8 (a0 + 4) x9) fun m10 => gLt (m10 (a1 + 5)) fun x11 => gLt (upd m10 (a0 + 5) x11) fun m12 => gLt (m12 (a1 + 6)) fun x13 => gLt (upd m12 (a0 + 6) x13) fun m14 => gLt (m14 (a1 + 7)) fun x15 => gLt (upd m14 (a0 + 7) x15) fun m16 => gCp m16 (a1 + 11) 7 (a0 + 11) 7 0 0 7 fun m19 => gCp m19 (a1 + 18) 3 (a0 + 18) 3 0 0 3 fun m22 => gCp m22 (a1 + 21) 3 (a0 + 21) 3 0 0 3 fun m25 => some m25
abbrev rmX1_copyFrom : Room := { frames := 1, cells := 0, slots := 0, locals := 40 }
def fX0_copyFrom_L81 (a0 : Nat) (a1 : Nat) (r50 : Int32 → gM → Option (gM)) : Nat → Int32 → gM → Option (gM)
  | 0, _, _ => none
  | n + 1, v2, m => (if 28 ≤ v2 then gCp m (a1 + 49) 4 (a0 + 49) 4 0 0 4 fun m16 => gCp m16 (a1 + 53) 5 (a0 + 53) 5 0 0 5 fun m19 => some m19 else gRd m (a1 + 21) 28 v2 fun x22 => gWr m (a0 + 21) 28 v2 (vp_nar .boolean x22) fun m23 => gLt (v2 + 1) fun x24 => fX0_copyFrom_L81 a0 a1 r50 n x24 m23)
def fX0_copyFrom_L50 (a0 : Nat) (a1 : Nat) : Nat → Int32 → gM → Option (gM)
  | 0, _, _ => none
  | n + 1, v2, m => gLt (m (a0 + 0)) fun x13 => (if x13 ≤ v2 then fX0_copyFrom_L81 a0 a1 (fX0_copyFrom_L50 a0 a1 n) gFU 0 m else gEl 10 v2 fun c42 => gEl 10 v2 fun c45 => gCv (fX1_copyFrom ((a0 + 11) + 57 + 24 * c42) ((a1 + 11) + 57 + 24 * c45) m) fun m47 => gLt (v2 + 1) fun x50 => fX0_copyFrom_L50 a0 a1 n x50 m47)
def fX0_copyFrom (a0 : Nat) (a1 : Nat) (m : gM) : Option (gM) := gLt (m (a1 + 0)) fun x1 => gLt (upd m (a0 + 0) x1) fun m2 => gLt (m2 (a1 + 1)) fun x3 => gLt (upd m2 (a0 + 1) x3) fun m4 => gLt (m4 (a1 + 2)) fun x5 => gLt (upd m4 (a0 + 2) x5) fun m6 => gLt (m6 (a1 + 3)) fun x7 => gLt (upd m6 (a0 + 3) x7) fun m8 => gLt (m8 (a1 + 4)) fun x9 => gLt (upd m8 (a0 + 4) x9) fun m10 => gLt (m10 (a1 + 5)) fun x11 => gLt (upd m10 (a0 + 5) x11) fun m12 => fX0_copyFrom_L50 a0 a1 gFU 0 m12
abbrev rmX0_copyFrom : Room := { frames := 2, cells := 0, slots := 0, locals := 61 }
def fX1_loavesAWeek_L4 (a0 : Nat) : Nat → Int32 → Int32 → gM → Option (gM × Int32)
  | 0, _, _, _ => none
  | n + 1, v1, v2, m => (if 7 ≤ v2 then some (m, v1) else gRd m (a0 + 11) 7 v2 fun x2 => gLt ((v1 + x2)) fun x3 => gLt (v2 + 1) fun x4 => fX1_loavesAWeek_L4 a0 n x3 x4 m)
def fX1_loavesAWeek (a0 : Nat) (m : gM) : Option (gM × Int32) := fX1_loavesAWeek_L4 a0 gFU 0 0 m
abbrev rmX1_loavesAWeek : Room := { frames := 0, cells := 0, slots := 0, locals := 0 }
def fX1_numberOf (a0 : Nat) (p1 : Int32) (m : gM) : Option (gM × Int32) := (if p1 = 0 then gLt (m (a0 + 0)) fun x2 => some (m, x2) else (if p1 = 1 then gCl (fX1_loavesAWeek a0 m) fun m4 x5 => some (m4, x5) else (if p1 = 2 then gLt (m (a0 + 1)) fun x8 => some (m, x8) else (if p1 = 3 then gLt (m (a0 + 2)) fun x10 => some (m, x10) else (if p1 = 4 then gLt (m (a0 + 3)) fun x12 => some (m, x12) else (if p1 = 5 then gLt (m (a0 + 4)) fun x14 => some (m, x14) else (if p1 = 6 then gLt (m (a0 + 5)) fun x16 => some (m, x16) else (if p1 = 7 then gLt (m (a0 + 6)) fun x18 => some (m, x18) else gLt (m (a0 + 7)) fun x19 => some (m, x19)))))))))
abbrev rmX1_numberOf : Room := { frames := 1, cells := 0, slots := 0, locals := 22 }
def fX0_sumOf_L4 (a0 : Nat) (v1 : Int32) : Nat → Int32 → Int32 → gM → Option (gM × Int32)
  | 0, _, _, _ => none
  | n + 1, v2, v3, m => gLt (m (a0 + 0)) fun x1 => (if x1 ≤ v3 then some (m, v2) else gEl 10 v3 fun c3 => gCl (fX1_numberOf ((a0 + 11) + 57 + 24 * c3) v1 m) fun m5 x6 => gLt ((v2 + x6)) fun x8 => gLt (v3 + 1) fun x9 => fX0_sumOf_L4 a0 v1 n x8 x9 m5)
def fX0_sumOf (a0 : Nat) (p1 : Int32) (m : gM) : Option (gM × Int32) := fX0_sumOf_L4 a0 p1 gFU 0 0 m
abbrev rmX0_sumOf : Room := { frames := 2, cells := 0, slots := 0, locals := 43 }
def fX1_isInFirstHolidays_L2 (a0 : Nat) (v1 : Int32) (v2 : Int32) : Nat → Int32 → gM → Option (gM × Int32)
  | 0, _, _ => none
  | n + 1, v3, m => (if v2 ≤ v3 then gRz .boolean 0 (some (m, 0)) else gRd m (a0 + 18) 3 v3 fun x2 => (if v1 < x2 then gLt (v3 + 1) fun x3 => fX1_isInFirstHolidays_L2 a0 v1 v2 n x3 m else gRd m (a0 + 21) 3 v3 fun x5 => (if x5 < v1 then gLt (v3 + 1) fun x6 => fX1_isInFirstHolidays_L2 a0 v1 v2 n x6 m else gRz .boolean 1 (some (m, 1)))))
def fX1_isInFirstHolidays (a0 : Nat) (p1 : Int32) (p2 : Int32) (m : gM) : Option (gM × Int32) := fX1_isInFirstHolidays_L2 a0 p1 p2 gFU 0 m
abbrev rmX1_isInFirstHolidays : Room := { frames := 0, cells := 0, slots := 0, locals := 0 }
def fX5_weekdayOf (p1 : Int32) (m : gM) : Option (gM × Int32) := some (m, (p1 - p1 / 7 * 7))
abbrev rmX5_weekdayOf : Room := { frames := 0, cells := 0, slots := 0, locals := 0 }
def fX1_dueOn (a0 : Nat) (p1 : Int32) (m : gM) : Option (gM × Int32) := gLt (m (a0 + 7)) fun x1 => gCl (fX1_isInFirstHolidays a0 p1 x1 m) fun m2 x3 => (if x3 = 0 then gCl (fX5_weekdayOf p1 m2) fun m6 x7 => gRd m6 (a0 + 11) 7 x7 fun x9 => some (m6, x9) else some (m2, 0))
abbrev rmX1_dueOn : Room := { frames := 1, cells := 0, slots := 0, locals := 23 }
def fX0_dueToAll_L4 (a0 : Nat) : Nat → Int32 → Int32 → gM → Option (gM × Int32)
  | 0, _, _, _ => none
  | n + 1, v1, v2, m => gLt (m (a0 + 0)) fun x1 => (if x1 ≤ v2 then some (m, v1) else gEl 10 v2 fun c3 => gLt (m (a0 + 1)) fun x5 => gCl (fX1_dueOn ((a0 + 11) + 57 + 24 * c3) x5 m) fun m6 x7 => gLt ((v1 + x7)) fun x9 => gLt (v2 + 1) fun x10 => fX0_dueToAll_L4 a0 n x9 x10 m6)
def fX0_dueToAll (a0 : Nat) (m : gM) : Option (gM × Int32) := fX0_dueToAll_L4 a0 gFU 0 0 m
abbrev rmX0_dueToAll : Room := { frames := 2, cells := 0, slots := 0, locals := 44 }
def fX0_numberOf (a0 : Nat) (p1 : Int32) (m : gM) : Option (gM × Int32) := (if p1 = 0 then gLt (m (a0 + 0)) fun x2 => some (m, x2) else (if p1 = 1 then gLt (m (a0 + 1)) fun x4 => some (m, x4) else (if p1 = 2 then gLt (m (a0 + 2)) fun x6 => some (m, x6) else (if p1 = 3 then gCl (fX0_sumOf a0 3 m) fun m8 x9 => some (m8, x9) else (if p1 = 4 then gCl (fX0_sumOf a0 4 m) fun m12 x13 => some (m12, x13) else (if p1 = 5 then gLt (m (a0 + 3)) fun x16 => some (m, x16) else (if p1 = 6 then gCl (fX0_sumOf a0 2 m) fun m18 x19 => some (m18, x19) else (if p1 = 7 then gCl (fX0_sumOf a0 5 m) fun m22 x23 => some (m22, x23) else (if p1 = 8 then gLt (m (a0 + 4)) fun x26 => some (m, x26) else (if p1 = 9 then gLt (m (a0 + 5)) fun x28 => some (m, x28) else (if p1 = 10 then gCl (fX0_sumOf a0 6 m) fun m30 x31 => some (m30, x31) else (if p1 = 11 then gCl (fX0_sumOf a0 7 m) fun m34 x35 => some (m34, x35) else gCl (fX0_dueToAll a0 m) fun m37 x38 => some (m37, x38)))))))))))))
abbrev rmX0_numberOf : Room := { frames := 3, cells := 0, slots := 0, locals := 66 }
def fX0_loavesGot (a0 : Nat) (m : gM) : Option (gM × Int32) := gCl (fX0_sumOf a0 3 m) fun m1 x2 => gCl (fX0_sumOf a0 4 m1) fun m4 x5 => some (m4, (x2 + x5))
abbrev rmX0_loavesGot : Room := { frames := 3, cells := 0, slots := 0, locals := 66 }
def fX0_isShut (a0 : Nat) (p1 : Int32) (p2 : Int32) (m : gM) : Option (gM × Int32) := gRd m (a0 + 21) 28 ((p1 * 7) + p2) fun x2 => gRz .boolean x2 (some (m, x2))
abbrev rmX0_isShut : Room := { frames := 0, cells := 0, slots := 0, locals := 0 }
def fX0_dueInOpenStreets_L4 (a0 : Nat) (v1 : Int32) : Nat → Int32 → Int32 → gM → Option (gM × Int32)
  | 0, _, _, _ => none
  | n + 1, v2, v3, m => gLt (m (a0 + 0)) fun x1 => (if x1 ≤ v3 then some (m, v2) else gEl 10 v3 fun c3 => gLt (m (((a0 + 11) + 57 + 24 * c3) + 0)) fun x5 => gCl (fX5_weekdayOf v1 m) fun m6 x7 => gCl (fX0_isShut a0 x5 x7 m6) fun m9 x10 => gLt (fun (x12 : Int32) (m13 : gM) => gLt (v3 + 1) fun x16 => fX0_dueInOpenStreets_L4 a0 v1 n x12 x16 m13) fun k14 => (if x10 = 0 then gEl 10 v3 fun c18 => gCl (fX1_dueOn ((a0 + 11) + 57 + 24 * c18) v1 m9) fun m20 x21 => gLt ((v2 + x21)) fun x23 => k14 x23 m20 else k14 v2 m9))
def fX0_dueInOpenStreets (a0 : Nat) (p1 : Int32) (m : gM) : Option (gM × Int32) := fX0_dueInOpenStreets_L4 a0 p1 gFU 0 0 m
abbrev rmX0_dueInOpenStreets : Room := { frames := 2, cells := 0, slots := 0, locals := 44 }
def fX5_isWithin (p1 : Int32) (p2 : Int32) (p3 : Int32) (m : gM) : Option (gM × Int32) := (if p1 < p2 then gRz .boolean 0 (some (m, 0)) else (if p3 < p1 then gRz .boolean 0 (some (m, 0)) else gRz .boolean 1 (some (m, 1))))
abbrev rmX5_isWithin : Room := { frames := 0, cells := 0, slots := 0, locals := 0 }
def fX0_hasCustomer (a0 : Nat) (p1 : Int32) (m : gM) : Option (gM × Int32) := gLt (m (a0 + 0)) fun x1 => gCl (fX5_isWithin p1 0 (x1 - 1) m) fun m2 x3 => gRz .boolean x3 (some (m2, x3))
abbrev rmX0_hasCustomer : Room := { frames := 1, cells := 0, slots := 0, locals := 22 }
def fX5_isStreet (p1 : Int32) (m : gM) : Option (gM × Int32) := gCl (fX5_isWithin p1 0 3 m) fun m1 x2 => gRz .boolean x2 (some (m1, x2))
abbrev rmX5_isStreet : Room := { frames := 1, cells := 0, slots := 0, locals := 22 }
def fX0_firstRefusal (p1 : Int32) (p2 : Int32) (p3 : Int32) (m : gM) : Option (gM × Nat) := (if p1 = 0 then some (m, 20001) else (if p2 = 0 then some (m, 20002) else (if p3 = 0 then some (m, 20003) else some (m, 20000))))
abbrev rmX0_firstRefusal : Room := { frames := 0, cells := 0, slots := 0, locals := 0 }
def fX5_isWeekday (p1 : Int32) (m : gM) : Option (gM × Int32) := gCl (fX5_isWithin p1 0 6 m) fun m1 x2 => gRz .boolean x2 (some (m1, x2))
abbrev rmX5_isWeekday : Room := { frames := 1, cells := 0, slots := 0, locals := 22 }
def fX5_isSetting (p1 : Int32) (m : gM) : Option (gM × Int32) := gCl (fX5_isWithin p1 0 4 m) fun m1 x2 => gRz .boolean x2 (some (m1, x2))
abbrev rmX5_isSetting : Room := { frames := 1, cells := 0, slots := 0, locals := 22 }
def fX0_refusalOf (a0 : Nat) (p1 : Int32) (p2 : Int32) (p3 : Int32) (p4 : Int32) (m : gM) : Option (gM × Nat) := (if p1 = 0 then gCl (fX5_isStreet p2 m) fun m2 x3 => gCl (fX5_isWithin p3 0 9999999 m2) fun m5 x6 => gLt (m5 (a0 + 0)) fun x8 => gLt ((if 10 ≤ x8 then 0 else 1) : Int32) fun x9 => gCl (fX0_firstRefusal x3 x6 x9 m5) fun m12 x13 => gOkE x13 <| some (m12, x13) else (if p1 = 1 then gCl (fX0_hasCustomer a0 p2 m) fun m17 x18 => gLt (fun (x20 : Int32) (m21 : gM) => gCl (fX5_isWithin p4 0 9 m21) fun m24 x25 => gCl (fX0_firstRefusal x20 x25 1 m24) fun m27 x28 => gOkE x28 <| some (m27, x28)) fun k22 => (if x18 = 0 then k22 0 m17 else gCl (fX5_isWeekday p3 m17) fun m31 x32 => (if x32 = 0 then k22 0 m31 else k22 1 m31)) else (if p1 = 2 then gCl (fX0_hasCustomer a0 p2 m) fun m35 x36 => gCl (fX5_isWithin p3 0 999 m35) fun m38 x39 => gLt (fun (x41 : Int32) (m42 : gM) => gCl (fX0_hasCustomer a0 p2 m42) fun m45 x46 => gLt (fun (x48 : Int32) => gCl (fX0_firstRefusal x36 x41 x48 m45) fun m51 x52 => gOkE x52 <| some (m51, x52)) fun k49 => (if x46 = 0 then k49 0 else gEl 10 p2 fun c56 => gLt (m45 (((a0 + 11) + 57 + 24 * c56) + 7)) fun x58 => (if 3 ≤ x58 then k49 0 else k49 1))) fun k43 => (if x39 = 0 then k43 0 m38 else gCl (fX5_isWithin p4 p3 999 m38) fun m59 x60 => (if x60 = 0 then k43 0 m59 else k43 1 m59)) else (if p1 = 3 then gCl (fX0_hasCustomer a0 p2 m) fun m63 x64 => gLt (fun (x66 : Int32) (m67 : gM) => gCl (fX0_firstRefusal x66 1 1 m67) fun m70 x71 => gOkE x71 <| some (m70, x71)) fun k68 => (if x64 = 0 then k68 0 m63 else gEl 10 p2 fun c75 => gLt (m63 (((a0 + 11) + 57 + 24 * c75) + 7)) fun x77 => gCl (fX5_isWithin p3 0 (x77 - 1) m63) fun m78 x79 => (if x79 = 0 then k68 0 m78 else k68 1 m78)) else (if p1 = 4 then gCl (fX5_isStreet p2 m) fun m82 x83 => gLt (fun (x85 : Int32) (m86 : gM) => gCl (fX0_firstRefusal x85 1 1 m86) fun m89 x90 => gOkE x90 <| some (m89, x90)) fun k87 => (if x83 = 0 then k87 0 m82 else gCl (fX5_isWeekday p3 m82) fun m93 x94 => (if x94 = 0 then k87 0 m93 else k87 1 m93)) else (if p1 = 5 then gCl (fX5_isStreet p2 m) fun m97 x98 => gLt (fun (x100 : Int32) (m101 : gM) => gCl (fX0_firstRefusal x100 1 1 m101) fun m104 x105 => gOkE x105 <| some (m104, x105)) fun k102 => (if x98 = 0 then k102 0 m97 else gCl (fX5_isStreet p3 m97) fun m108 x109 => (if x109 = 0 then k102 0 m108 else k102 1 m108)) else (if p1 = 6 then gCl (fX5_isSetting p2 m) fun m112 x113 => gLt (fun (x115 : Int32) (m116 : gM) => gCl (fX0_firstRefusal 1 x115 1 m116) fun m119 x120 => gOkE x120 <| some (m119, x120)) fun k117 => (if x113 = 0 then k117 0 m112 else gTd gLeast p2 fun x123 => gTd gGreat p2 fun x124 => gCl (fX5_isWithin p3 x123 x124 m112) fun m125 x126 => (if x126 = 0 then k117 0 m125 else k117 1 m125)) else gCl (fX5_isWithin p2 1 60 m) fun m128 x129 => gCl (fX0_firstRefusal 1 x129 1 m128) fun m131 x132 => gOkE x132 <| some (m131, x132))))))))
abbrev rmX0_refusalOf : Room := { frames := 2, cells := 0, slots := 0, locals := 43 }
def fX1_start_L46 (a0 : Nat) : Nat → Int32 → Int32 → gM → Option (gM)
  | 0, _, _, _ => none
  | n + 1, v3, v4, m => (if v4 < 0 then some m else gWr m (a0 + 11) 7 v4 (v3 - v3 / 10 * 10) fun m10 => gLt ((v3 / 10)) fun x11 => gLt (v4 + (-1)) fun x12 => fX1_start_L46 a0 n x11 x12 m10)
def fX1_start (a0 : Nat) (p1 : Int32) (p2 : Int32) (m : gM) : Option (gM) := gLt (upd m (a0 + 0) p1) fun m1 => gLt (upd m1 (a0 + 1) 0) fun m2 => gLt (upd m2 (a0 + 2) 0) fun m3 => gLt (upd m3 (a0 + 3) 0) fun m4 => gLt (upd m4 (a0 + 4) 0) fun m5 => gLt (upd m5 (a0 + 5) 0) fun m6 => gLt (upd m6 (a0 + 6) 0) fun m7 => gLt (upd m7 (a0 + 7) 0) fun m8 => fX1_start_L46 a0 gFU p2 6 m8
abbrev rmX1_start : Room := { frames := 0, cells := 0, slots := 0, locals := 0 }
def fX0_addCustomer (a0 : Nat) (p1 : Int32) (p2 : Int32) (m : gM) : Option (gM × Int32) := gLt (m (a0 + 0)) fun x2 => gEl 10 x2 fun c3 => gCv (fX1_start ((a0 + 11) + 57 + 24 * c3) p1 p2 m) fun m5 => gLt (m5 (a0 + 0)) fun x8 => gLt (upd m5 (a0 + 0) (x8 + 1)) fun m9 => gLt (m9 (a0 + 0)) fun x10 => some (m9, (x10 - 1))
abbrev rmX0_addCustomer : Room := { frames := 1, cells := 0, slots := 0, locals := 24 }
def fX1_putLoaves (a0 : Nat) (p1 : Int32) (p2 : Int32) (m : gM) : Option (gM × Int32) := gRd m (a0 + 11) 7 p1 fun x2 => gWr m (a0 + 11) 7 p1 p2 fun m4 => some (m4, x2)
abbrev rmX1_putLoaves : Room := { frames := 0, cells := 0, slots := 0, locals := 0 }
def fX1_addHoliday (a0 : Nat) (p1 : Int32) (p2 : Int32) (m : gM) : Option (gM × Int32) := gLt (m (a0 + 7)) fun x2 => gWr m (a0 + 18) 3 x2 p1 fun m3 => gLt (m3 (a0 + 7)) fun x5 => gWr m3 (a0 + 21) 3 x5 p2 fun m6 => gLt (m6 (a0 + 7)) fun x7 => gLt (upd m6 (a0 + 7) (x7 + 1)) fun m8 => gLt (m8 (a0 + 7)) fun x9 => some (m8, x9)
abbrev rmX1_addHoliday : Room := { frames := 0, cells := 0, slots := 0, locals := 0 }
def fX1_dropHoliday_L2 (a0 : Nat) : Nat → Int32 → gM → Option (gM × Int32)
  | 0, _, _ => none
  | n + 1, v2, m => gLt (m (a0 + 7)) fun x1 => (if x1 ≤ (v2 + 1) then gLt (m (a0 + 7)) fun x2 => gLt (upd m (a0 + 7) (x2 - 1)) fun m3 => gLt (m3 (a0 + 7)) fun x4 => some (m3, x4) else gRd m (a0 + 18) 3 (v2 + 1) fun x7 => gWr m (a0 + 18) 3 v2 x7 fun m8 => gRd m8 (a0 + 21) 3 (v2 + 1) fun x11 => gWr m8 (a0 + 21) 3 v2 x11 fun m12 => gLt (v2 + 1) fun x13 => fX1_dropHoliday_L2 a0 n x13 m12)
def fX1_dropHoliday (a0 : Nat) (p1 : Int32) (m : gM) : Option (gM × Int32) := fX1_dropHoliday_L2 a0 gFU p1 m
abbrev rmX1_dropHoliday : Room := { frames := 0, cells := 0, slots := 0, locals := 0 }
def fX0_closeStreet_L18 (a0 : Nat) (v1 : Int32) : Nat → Int32 → Int32 → gM → Option (gM × Int32)
  | 0, _, _, _ => none
  | n + 1, v4, v5, m => (if 7 ≤ v5 then some (m, v4) else gCl (fX0_isShut a0 v1 v5 m) fun m3 x4 => gLt (fun (x6 : Int32) => gLt (v5 + 1) fun x9 => fX0_closeStreet_L18 a0 v1 n x6 x9 m3) fun k7 => (if x4 = 0 then k7 v4 else gLt (v4 + 1) fun x10 => k7 x10))
def fX0_closeStreet (a0 : Nat) (p1 : Int32) (p2 : Int32) (p3 : Int32) (m : gM) : Option (gM × Int32) := gWr m (a0 + 21) 28 ((p1 * 7) + p2) (vp_nar .boolean p3) fun m2 => fX0_closeStreet_L18 a0 p1 gFU 0 0 m2
abbrev rmX0_closeStreet : Room := { frames := 1, cells := 0, slots := 0, locals := 22 }
def fX0_placeOf_L4 (a0 : Nat) (v1 : Int32) : Nat → Int32 → Int32 → gM → Option (gM × Int32)
  | 0, _, _, _ => none
  | n + 1, v2, v3, m => (if 4 ≤ v3 then some (m, v2) else gRd m (a0 + 49) 4 v3 fun x2 => gLt ((if x2 = v1 then v3 else v2) : Int32) fun x3 => gLt (v3 + 1) fun x6 => fX0_placeOf_L4 a0 v1 n x3 x6 m)
def fX0_placeOf (a0 : Nat) (p1 : Int32) (m : gM) : Option (gM × Int32) := fX0_placeOf_L4 a0 p1 gFU 0 0 m
abbrev rmX0_placeOf : Room := { frames := 0, cells := 0, slots := 0, locals := 0 }
def fX0_swapStreets (a0 : Nat) (p1 : Int32) (p2 : Int32) (m : gM) : Option (gM × Int32) := gCl (fX0_placeOf a0 p1 m) fun m1 x2 => gCl (fX0_placeOf a0 p2 m1) fun m4 x5 => gWr m4 (a0 + 49) 4 x2 p2 fun m8 => gWr m8 (a0 + 49) 4 x5 p1 fun m10 => some (m10, x5)
abbrev rmX0_swapStreets : Room := { frames := 1, cells := 0, slots := 0, locals := 23 }
def fX0_changeSetting (a0 : Nat) (p1 : Int32) (p2 : Int32) (m : gM) : Option (gM × Int32) := gRd m (a0 + 53) 5 p1 fun x2 => gWr m (a0 + 53) 5 p1 p2 fun m4 => some (m4, x2)
abbrev rmX0_changeSetting : Room := { frames := 0, cells := 0, slots := 0, locals := 0 }
def fX0_planVisits_L11 (a0 : Nat) (v2 : Int32) (r4 : Int32 → Int32 → gM → Option (gM)) : Nat → Int32 → Int32 → gM → Option (gM)
  | 0, _, _, _ => none
  | n + 1, v1, v3, m => gLt (m (a0 + 0)) fun x1 => (if x1 ≤ v3 then gLt (v2 + 1) fun x2 => r4 v1 x2 m else gEl 10 v3 fun c4 => gLt (m (((a0 + 11) + 57 + 24 * c4) + 0)) fun x6 => gRd m (a0 + 49) 4 v2 fun x8 => gLt (fun (x9 : Int32) (m10 : gM) => gLt (v3 + 1) fun x13 => fX0_planVisits_L11 a0 v2 r4 n x9 x13 m10) fun k11 => (if x6 = x8 then gWr m (a0 + 58) 10 v1 v3 fun m15 => gLt (v1 + 1) fun x16 => k11 x16 m15 else k11 v1 m))
def fX0_planVisits_L4 (a0 : Nat) : Nat → Int32 → Int32 → gM → Option (gM)
  | 0, _, _, _ => none
  | n + 1, v1, v2, m => (if 4 ≤ v2 then some m else fX0_planVisits_L11 a0 v2 (fX0_planVisits_L4 a0 n) gFU v1 0 m)
def fX0_planVisits (a0 : Nat) (m : gM) : Option (gM) := fX0_planVisits_L4 a0 gFU 0 0 m
abbrev rmX0_planVisits : Room := { frames := 0, cells := 0, slots := 0, locals := 0 }
def fX0_loavesFor (a0 : Nat) (p1 : Int32) (m : gM) : Option (gM × Int32) := gRd m (a0 + 53) 5 1 fun x2 => gRd m (a0 + 53) 5 0 fun x4 => gLt (jmin (p1 + x2) x4) fun x5 => some (m, x5)
abbrev rmX0_loavesFor : Room := { frames := 1, cells := 0, slots := 0, locals := 21 }
def fX0_isReached (a0 : Nat) (a1 : Nat) (m : gM) : Option (gM × Int32) := gLt (m (a1 + 0)) fun x1 => gLt (m (a0 + 1)) fun x2 => gCl (fX5_weekdayOf x2 m) fun m3 x4 => gCl (fX0_isShut a0 x1 x4 m3) fun m6 x7 => (if x7 = 0 then gRz .boolean 1 (some (m6, 1)) else gRz .boolean 0 (some (m6, 0)))
abbrev rmX0_isReached : Room := { frames := 1, cells := 0, slots := 0, locals := 22 }
def fX1_receive (a0 : Nat) (p1 : Int32) (p2 : Int32) (m : gM) : Option (gM) := gLt (m (a0 + 2)) fun x1 => gLt (upd m (a0 + 2) (x1 + p2)) fun m2 => gLt (m2 (a0 + 1)) fun x3 => gLt (upd m2 (a0 + 1) (x3 + (p1 - p2))) fun m4 => (if p1 ≤ 0 then (if p1 ≤ p2 then some m4 else gLt (m4 (a0 + 6)) fun x5 => gLt (upd m4 (a0 + 6) (x5 + 1)) fun m6 => some m6) else (if p2 = 0 then gLt (m4 (a0 + 5)) fun x9 => gLt (upd m4 (a0 + 5) (x9 + 1)) fun m10 => some m10 else (if p1 ≤ p2 then some m4 else gLt (m4 (a0 + 6)) fun x7 => gLt (upd m4 (a0 + 6) (x7 + 1)) fun m8 => some m8)))
abbrev rmX1_receive : Room := { frames := 0, cells := 0, slots := 0, locals := 0 }
def fX0_handOut_L4 (a0 : Nat) : Nat → Int32 → Int32 → gM → Option (gM × Int32)
  | 0, _, _, _ => none
  | n + 1, v2, v3, m => gLt (m (a0 + 0)) fun x1 => (if x1 ≤ v3 then some (m, v2) else gRd m (a0 + 58) 10 v3 fun x4 => gEl 10 x4 fun c5 => gLt (m (a0 + 1)) fun x7 => gCl (fX1_dueOn ((a0 + 11) + 57 + 24 * c5) x7 m) fun m8 x9 => gCl (fX0_isReached a0 ((a0 + 11) + 57 + 24 * c5) m8) fun m11 x12 => gLt (fun (x14 : Int32) => gLt (m11 (a0 + 4)) fun x17 => gRd m11 (a0 + 53) 5 4 fun x19 => gLt (upd m11 (a0 + 4) (x17 + (x9 * x19))) fun m20 => gCv (fX1_receive ((a0 + 11) + 57 + 24 * c5) x9 x14 m20) fun m21 => gLt ((v2 - x14)) fun x24 => gLt (v3 + 1) fun x25 => fX0_handOut_L4 a0 n x24 x25 m21) fun k15 => (if x12 = 0 then k15 0 else gLt (jmin x9 v2) fun x26 => k15 x26))
def fX0_handOut (a0 : Nat) (p1 : Int32) (m : gM) : Option (gM × Int32) := fX0_handOut_L4 a0 gFU p1 0 m
abbrev rmX0_handOut : Room := { frames := 2, cells := 0, slots := 0, locals := 44 }
def fX1_isAwayOn (a0 : Nat) (p1 : Int32) (m : gM) : Option (gM × Int32) := gLt (m (a0 + 7)) fun x1 => gCl (fX1_isInFirstHolidays a0 p1 x1 m) fun m2 x3 => gRz .boolean x3 (some (m2, x3))
abbrev rmX1_isAwayOn : Room := { frames := 1, cells := 0, slots := 0, locals := 23 }
def fX1_receiveForCredit (a0 : Nat) (p1 : Int32) (m : gM) : Option (gM) := gLt (m (a0 + 3)) fun x1 => gLt (upd m (a0 + 3) (x1 + p1)) fun m2 => gLt (m2 (a0 + 1)) fun x3 => gLt (upd m2 (a0 + 1) (x3 - p1)) fun m4 => some m4
abbrev rmX1_receiveForCredit : Room := { frames := 0, cells := 0, slots := 0, locals := 0 }
def fX0_makeGood_L4 (a0 : Nat) : Nat → Int32 → Int32 → gM → Option (gM × Int32)
  | 0, _, _, _ => none
  | n + 1, v2, v3, m => gLt (m (a0 + 0)) fun x1 => (if x1 ≤ v3 then some (m, v2) else gRd m (a0 + 58) 10 v3 fun x4 => gEl 10 x4 fun c5 => gCl (fX0_isReached a0 ((a0 + 11) + 57 + 24 * c5) m) fun m7 x8 => gLt (fun (x10 : Int32) (m11 : gM) => gLt (v3 + 1) fun x14 => fX0_makeGood_L4 a0 n x10 x14 m11) fun k12 => (if x8 = 0 then k12 v2 m7 else gLt (m7 (a0 + 1)) fun x15 => gCl (fX1_isAwayOn ((a0 + 11) + 57 + 24 * c5) x15 m7) fun m16 x17 => (if x17 = 0 then gLt (m16 (((a0 + 11) + 57 + 24 * c5) + 1)) fun x19 => gRd m16 (a0 + 53) 5 2 fun x21 => gLt (jmin x19 x21) fun x22 => gLt (jmin v2 x22) fun x23 => gCv (fX1_receiveForCredit ((a0 + 11) + 57 + 24 * c5) x23 m16) fun m24 => gLt ((v2 - x23)) fun x27 => k12 x27 m24 else k12 v2 m16)))
def fX0_makeGood (a0 : Nat) (p1 : Int32) (m : gM) : Option (gM × Int32) := fX0_makeGood_L4 a0 gFU p1 0 m
abbrev rmX0_makeGood : Room := { frames := 2, cells := 0, slots := 0, locals := 44 }
def fX1_cutCredit (a0 : Nat) (p1 : Int32) (m : gM) : Option (gM × Int32) := gLt (m (a0 + 1)) fun x1 => gLt (jmax 0 (x1 - p1)) fun x2 => gLt (m (a0 + 1)) fun x3 => gLt (upd m (a0 + 1) (x3 - x2)) fun m4 => gLt (m4 (a0 + 4)) fun x5 => gLt (upd m4 (a0 + 4) (x5 + x2)) fun m6 => some (m6, x2)
abbrev rmX1_cutCredit : Room := { frames := 1, cells := 0, slots := 0, locals := 21 }
def fX0_payBack_L2 (a0 : Nat) : Nat → Int32 → gM → Option (gM)
  | 0, _, _ => none
  | n + 1, v1, m => gLt (m (a0 + 0)) fun x1 => (if x1 ≤ v1 then some m else gLt (m (a0 + 5)) fun x2 => gEl 10 v1 fun c4 => gRd m (a0 + 53) 5 3 fun x7 => gCl (fX1_cutCredit ((a0 + 11) + 57 + 24 * c4) x7 m) fun m8 x9 => gRd m8 (a0 + 53) 5 4 fun x12 => gLt (upd m8 (a0 + 5) (x2 + (x9 * x12))) fun m13 => gLt (v1 + 1) fun x14 => fX0_payBack_L2 a0 n x14 m13)
def fX0_payBack (a0 : Nat) (m : gM) : Option (gM) := fX0_payBack_L2 a0 gFU 0 m
abbrev rmX0_payBack : Room := { frames := 2, cells := 0, slots := 0, locals := 43 }
def fX0_deliver_L8 (a0 : Nat) (v1 : Int32) : Nat → Int32 → Int32 → gM → Option (gM × Int32)
  | 0, _, _, _ => none
  | n + 1, v2, v3, m => (if v1 ≤ v3 then some (m, v2) else gCl (fX0_dueToAll a0 m) fun m4 x5 => gCl (fX0_loavesFor a0 x5 m4) fun m7 x8 => gCl (fX0_handOut a0 x8 m7) fun m10 x11 => gCl (fX0_makeGood a0 x11 m10) fun m13 x14 => gLt (m13 (a0 + 2)) fun x16 => gLt (upd m13 (a0 + 2) (x16 + x8)) fun m17 => gLt (m17 (a0 + 3)) fun x18 => gLt (upd m17 (a0 + 3) (x18 + x14)) fun m19 => gLt ((v2 + (x8 - x14))) fun x20 => gCv (fX0_payBack a0 m19) fun m21 => gLt (m21 (a0 + 1)) fun x24 => gLt (upd m21 (a0 + 1) (x24 + 1)) fun m25 => gLt (v3 + 1) fun x26 => fX0_deliver_L8 a0 v1 n x20 x26 m25)
def fX0_deliver (a0 : Nat) (p1 : Int32) (m : gM) : Option (gM × Int32) := gCv (fX0_planVisits a0 m) fun m1 => fX0_deliver_L8 a0 p1 gFU 0 0 m1
abbrev rmX0_deliver : Room := { frames := 3, cells := 0, slots := 0, locals := 70 }
def fX0_perform (a0 : Nat) (p1 : Int32) (p2 : Int32) (p3 : Int32) (p4 : Int32) (m : gM) : Option (gM × Int32) := gCl (fX0_refusalOf a0 p1 p2 p3 p4 m) fun m1 x2 => gOkE x2 <| (if x2 = 20000 then (if p1 = 0 then gCl (fX0_addCustomer a0 p2 p3 m1) fun m6 x7 => some (m6, x7) else (if p1 = 1 then gEl 10 p2 fun c11 => gCl (fX1_putLoaves ((a0 + 11) + 57 + 24 * c11) p3 p4 m1) fun m13 x14 => some (m13, x14) else (if p1 = 2 then gEl 10 p2 fun c18 => gCl (fX1_addHoliday ((a0 + 11) + 57 + 24 * c18) p3 p4 m1) fun m20 x21 => some (m20, x21) else (if p1 = 3 then gEl 10 p2 fun c25 => gCl (fX1_dropHoliday ((a0 + 11) + 57 + 24 * c25) p3 m1) fun m27 x28 => some (m27, x28) else (if p1 = 4 then gLt ((if p4 = 1 then 1 else 0) : Int32) fun x31 => gCl (fX0_closeStreet a0 p2 p3 x31 m1) fun m34 x35 => some (m34, x35) else (if p1 = 5 then gCl (fX0_swapStreets a0 p2 p3 m1) fun m38 x39 => some (m38, x39) else (if p1 = 6 then gCl (fX0_changeSetting a0 p2 p3 m1) fun m42 x43 => some (m42, x43) else gCl (fX0_deliver a0 p2 m1) fun m45 x46 => some (m45, x46)))))))) else some (m1, (-1)))
abbrev rmX0_perform : Room := { frames := 4, cells := 0, slots := 0, locals := 95 }
def fX0_takeOrder_L4 (a0 : Nat) : Nat → Int32 → Int32 → gM → Option (gM)
  | 0, _, _, _ => none
  | n + 1, v2, v3, m => (if v3 < 0 then some m else gWr m (a0 + 49) 4 v3 (v2 - v2 / 4 * 4) fun m2 => gLt ((v2 / 4)) fun x3 => gLt (v3 + (-1)) fun x4 => fX0_takeOrder_L4 a0 n x3 x4 m2)
def fX0_takeOrder (a0 : Nat) (p1 : Int32) (m : gM) : Option (gM) := fX0_takeOrder_L4 a0 gFU p1 3 m
abbrev rmX0_takeOrder : Room := { frames := 0, cells := 0, slots := 0, locals := 0 }
def fX0_orderAsNumber_L4 (a0 : Nat) : Nat → Int32 → Int32 → gM → Option (gM × Int32)
  | 0, _, _, _ => none
  | n + 1, v1, v2, m => (if 4 ≤ v2 then some (m, v1) else gRd m (a0 + 49) 4 v2 fun x2 => gLt (((v1 * 10) + x2)) fun x3 => gLt (v2 + 1) fun x4 => fX0_orderAsNumber_L4 a0 n x3 x4 m)
def fX0_orderAsNumber (a0 : Nat) (m : gM) : Option (gM × Int32) := fX0_orderAsNumber_L4 a0 gFU 0 0 m
abbrev rmX0_orderAsNumber : Room := { frames := 0, cells := 0, slots := 0, locals := 0 }
def fX0_leftBefore_L15 (a0 : Nat) (v1 : Int32) : Nat → Int32 → Int32 → gM → Option (gM × Int32)
  | 0, _, _, _ => none
  | n + 1, v2, v3, m => gLt (m (a0 + 0)) fun x10 => (if x10 ≤ v3 then some (m, v2) else gRd m (a0 + 58) 10 v3 fun x12 => (if x12 = v1 then some (m, v2) else gRd m (a0 + 58) 10 v3 fun x15 => gEl 10 x15 fun c16 => gCl (fX0_isReached a0 ((a0 + 11) + 57 + 24 * c16) m) fun m18 x19 => gLt (fun (x21 : Int32) (m22 : gM) => gLt (v3 + 1) fun x25 => fX0_leftBefore_L15 a0 v1 n x21 x25 m22) fun k23 => (if x19 = 0 then k23 v2 m18 else gLt (m18 (a0 + 1)) fun x26 => gCl (fX1_dueOn ((a0 + 11) + 57 + 24 * c16) x26 m18) fun m27 x28 => gLt (jmin v2 x28) fun x30 => gLt ((v2 - x30)) fun x31 => k23 x31 m27)))
def fX0_leftBefore (a0 : Nat) (p1 : Int32) (m : gM) : Option (gM × Int32) := gCv (fX0_planVisits a0 m) fun m1 => gCl (fX0_dueToAll a0 m1) fun m4 x5 => gCl (fX0_loavesFor a0 x5 m4) fun m7 x8 => fX0_leftBefore_L15 a0 p1 gFU x8 0 m7
abbrev rmX0_leftBefore : Room := { frames := 3, cells := 0, slots := 0, locals := 66 }
def fX0_reasonFor (a0 : Nat) (p1 : Int32) (m : gM) : Option (gM × Int32) := gEl 10 p1 fun c2 => gLt (m (a0 + 1)) fun x5 => gCl (fX5_weekdayOf x5 m) fun m6 x7 => gRd m6 (((a0 + 11) + 57 + 24 * c2) + 11) 7 x7 fun x9 => (if x9 = 0 then some (m6, 1) else gLt (m6 (a0 + 1)) fun x10 => gCl (fX1_isAwayOn ((a0 + 11) + 57 + 24 * c2) x10 m6) fun m11 x12 => (if x12 = 0 then gCl (fX0_isReached a0 ((a0 + 11) + 57 + 24 * c2) m11) fun m14 x15 => (if x15 = 0 then some (m14, 3) else gCl (fX0_leftBefore a0 p1 m14) fun m17 x18 => (if x18 = 0 then some (m17, 4) else gLt (m17 (a0 + 1)) fun x20 => gCl (fX1_dueOn ((a0 + 11) + 57 + 24 * c2) x20 m17) fun m21 x22 => (if x22 ≤ x18 then some (m21, 0) else some (m21, 5)))) else some (m11, 2)))
abbrev rmX0_reasonFor : Room := { frames := 4, cells := 0, slots := 0, locals := 90 }
def fX1_nextDueDay_L2 (a0 : Nat) (v1 : Int32) : Nat → Int32 → gM → Option (gM × Int32)
  | 0, _, _ => none
  | n + 1, v2, m => (if (v1 + 200) < v2 then some (m, (-1)) else gCl (fX1_dueOn a0 v2 m) fun m1 x2 => (if x2 ≤ 0 then gLt (v2 + 1) fun x4 => fX1_nextDueDay_L2 a0 v1 n x4 m1 else some (m1, v2)))
def fX1_nextDueDay (a0 : Nat) (p1 : Int32) (m : gM) : Option (gM × Int32) := fX1_nextDueDay_L2 a0 p1 gFU p1 m
abbrev rmX1_nextDueDay : Room := { frames := 2, cells := 0, slots := 0, locals := 44 }
def fX1_dueDayByDay_L5 (a0 : Nat) (v1 : Int32) (v2 : Int32) : Nat → Int32 → Int32 → gM → Option (gM × Int32)
  | 0, _, _, _ => none
  | n + 1, v3, v4, m => (if (v1 + v2) ≤ v4 then some (m, v3) else gCl (fX1_dueOn a0 v4 m) fun m1 x2 => gLt ((v3 + x2)) fun x4 => gLt (v4 + 1) fun x5 => fX1_dueDayByDay_L5 a0 v1 v2 n x4 x5 m1)
def fX1_dueDayByDay (a0 : Nat) (p1 : Int32) (p2 : Int32) (m : gM) : Option (gM × Int32) := fX1_dueDayByDay_L5 a0 p1 p2 gFU 0 p1 m
abbrev rmX1_dueDayByDay : Room := { frames := 2, cells := 0, slots := 0, locals := 44 }
def fX1_orderedInHolidays_L40 (a0 : Nat) (v1 : Int32) (v2 : Int32) (v4 : Int32) (v5 : Int32) (r5 : Int32 → Int32 → gM → Option (gM × Int32)) : Nat → Int32 → Int32 → gM → Option (gM × Int32)
  | 0, _, _, _ => none
  | n + 1, v3, v6, m => (if v5 < v6 then gLt (v4 + 1) fun x8 => r5 v3 x8 m else gCl (fX1_isInFirstHolidays a0 v6 v4 m) fun m9 x10 => gLt (fun (x12 : Int32) (m13 : gM) => gLt (v6 + 1) fun x16 => fX1_orderedInHolidays_L40 a0 v1 v2 v4 v5 r5 n x12 x16 m13) fun k14 => (if x10 = 0 then gCl (fX5_weekdayOf v6 m9) fun m18 x19 => gRd m18 (a0 + 11) 7 x19 fun x21 => gLt ((v3 + x21)) fun x22 => k14 x22 m18 else k14 v3 m9))
def fX1_orderedInHolidays_L5 (a0 : Nat) (v1 : Int32) (v2 : Int32) : Nat → Int32 → Int32 → gM → Option (gM × Int32)
  | 0, _, _, _ => none
  | n + 1, v3, v4, m => gLt (m (a0 + 7)) fun x1 => (if x1 ≤ v4 then some (m, v3) else gRd m (a0 + 21) 3 v4 fun x3 => gLt (jmin v2 x3) fun x4 => gRd m (a0 + 18) 3 v4 fun x6 => gLt (jmax v1 x6) fun x7 => fX1_orderedInHolidays_L40 a0 v1 v2 v4 x4 (fX1_orderedInHolidays_L5 a0 v1 v2 n) gFU v3 x7 m)
def fX1_orderedInHolidays (a0 : Nat) (p1 : Int32) (p2 : Int32) (m : gM) : Option (gM × Int32) := fX1_orderedInHolidays_L5 a0 p1 p2 gFU 0 0 m
abbrev rmX1_orderedInHolidays : Room := { frames := 1, cells := 0, slots := 0, locals := 23 }
def fX1_dueByWeeks_L21 (a0 : Nat) (v1 : Int32) (v2 : Int32) : Nat → Int32 → Int32 → gM → Option (gM × Int32)
  | 0, _, _, _ => none
  | n + 1, v4, v5, m => (if (v1 + v2) ≤ v5 then gCl (fX1_orderedInHolidays a0 v1 ((v1 + v2) - 1) m) fun m7 x8 => some (m7, (v4 - x8)) else gCl (fX5_weekdayOf v5 m) fun m11 x12 => gRd m11 (a0 + 11) 7 x12 fun x14 => gLt ((v4 + x14)) fun x15 => gLt (v5 + 1) fun x16 => fX1_dueByWeeks_L21 a0 v1 v2 n x15 x16 m11)
def fX1_dueByWeeks (a0 : Nat) (p1 : Int32) (p2 : Int32) (m : gM) : Option (gM × Int32) := gLt ((p2 / 7)) fun x1 => gCl (fX1_loavesAWeek a0 m) fun m2 x3 => gLt ((x1 * x3)) fun x5 => gLt ((p1 + (x1 * 7))) fun x6 => fX1_dueByWeeks_L21 a0 p1 p2 gFU x5 x6 m2
abbrev rmX1_dueByWeeks : Room := { frames := 2, cells := 0, slots := 0, locals := 49 }
def fX2_forgetAll  (m : gM) : Option (gM) := gLt (upd m (744 + 1) 0) fun m1 => gLt (upd m1 (744 + 2) 0) fun m2 => some m2
abbrev rmX2_forgetAll : Room := { frames := 0, cells := 0, slots := 0, locals := 0 }
def fX2_keep (a1 : Nat) (m : gM) : Option (gM) := gLt (m (744 + 2)) fun x2 => gEl 14 x2 fun c3 => gCv (fX0_copyFrom (761 + 308 * c3) a1 m) fun m5 => gLt (m5 (744 + 2)) fun x8 => gLt (upd m5 (744 + 2) ((x8 + 1) - (x8 + 1) / 14 * 14)) fun m9 => gLt (m9 (744 + 1)) fun x10 => gLt (jmin (x10 + 1) 14) fun x11 => gLt (upd m9 (744 + 1) x11) fun m12 => some m12
abbrev rmX2_keep : Room := { frames := 3, cells := 0, slots := 0, locals := 83 }
def fX2_takeBack (a1 : Nat) (m : gM) : Option (gM × Int32) := gLt (m (744 + 2)) fun x1 => gLt (upd m (744 + 2) (((x1 + 14) - 1) - ((x1 + 14) - 1) / 14 * 14)) fun m2 => gLt (m2 (744 + 2)) fun x4 => gEl 14 x4 fun c5 => gCv (fX0_copyFrom a1 (761 + 308 * c5) m2) fun m7 => gLt (m7 (744 + 1)) fun x10 => gLt (upd m7 (744 + 1) (x10 - 1)) fun m11 => gLt (m11 (744 + 1)) fun x12 => some (m11, x12)
abbrev rmX2_takeBack : Room := { frames := 3, cells := 0, slots := 0, locals := 83 }
def fX4_add (p1 : Int32) (m : gM) : Option (gM × Int32) := gLt (m (6 + 1)) fun x2 => gWr m 8 120 x2 (vp_nar .char p1) fun m3 => gLt (m3 (6 + 1)) fun x4 => gLt (upd m3 (6 + 1) (x4 + 1)) fun m5 => gLt (m5 (6 + 1)) fun x6 => some (m5, x6)
abbrev rmX4_add : Room := { frames := 0, cells := 0, slots := 0, locals := 0 }
def fX4_empty  (m : gM) : Option (gM × Int32) := gLt (m (6 + 1)) fun x1 => gLt (upd m (6 + 1) 0) fun m2 => some (m2, x1)
abbrev rmX4_empty : Room := { frames := 0, cells := 0, slots := 0, locals := 0 }
def fX4_signAt (p1 : Int32) (m : gM) : Option (gM × Int32) := (if p1 < 0 then gRz .char 0 (some (m, 0)) else gLt (m (6 + 1)) fun x1 => (if x1 ≤ p1 then gRz .char 0 (some (m, 0)) else gRd m 8 120 p1 fun x3 => gRz .char x3 (some (m, x3))))
abbrev rmX4_signAt : Room := { frames := 0, cells := 0, slots := 0, locals := 0 }
def fX4_formOf (p1 : Int32) (m : gM) : Option (gM × Nat) := (if p1 = 99 then some (m, (20030 + 0)) else (if p1 = 100 then some (m, (20030 + 6)) else (if p1 = 101 then some (m, (20030 + 7)) else (if p1 = 102 then some (m, (20030 + 7)) else (if p1 = 103 then some (m, (20030 + 7)) else (if p1 = 104 then some (m, (20030 + 2)) else (if p1 = 105 then some (m, (20030 + 7)) else (if p1 = 106 then some (m, (20030 + 7)) else (if p1 = 107 then some (m, (20030 + 7)) else (if p1 = 108 then some (m, (20030 + 7)) else (if p1 = 109 then some (m, (20030 + 7)) else (if p1 = 110 then some (m, (20030 + 1)) else (if p1 = 111 then some (m, (20030 + 7)) else (if p1 = 112 then some (m, (20030 + 7)) else (if p1 = 113 then some (m, (20030 + 7)) else (if p1 = 114 then some (m, (20030 + 7)) else (if p1 = 115 then some (m, (20030 + 5)) else (if p1 = 116 then some (m, (20030 + 7)) else (if p1 = 117 then some (m, (20030 + 7)) else (if p1 = 118 then some (m, (20030 + 4)) else (if p1 = 119 then some (m, (20030 + 7)) else (if p1 = 120 then some (m, (20030 + 3)) else some (m, (20030 + 7))))))))))))))))))))))))
abbrev rmX4_formOf : Room := { frames := 0, cells := 0, slots := 0, locals := 0 }
def fX4_formLength (p1 : Int32) (m : gM) : Option (gM × Int32) := gCl (fX4_signAt p1 m) fun m1 x2 => gCl (fX4_formOf x2 m1) fun m4 x5 => gOkS x5 fun i7 => gCl (fJ0_length_8abf5 i7 m4) fun m9 x10 => some (m9, x10)
abbrev rmX4_formLength : Room := { frames := 2, cells := 0, slots := 0, locals := 40 }
def fX4_isAllowed (p1 : Int32) (p2 : Int32) (m : gM) : Option (gM × Int32) := gCl (fX4_signAt p2 m) fun m1 x2 => (if p1 = 43 then (if x2 = 43 then gRz .boolean 1 (some (m1, 1)) else (if x2 = 45 then gRz .boolean 1 (some (m1, 1)) else gRz .boolean 0 (some (m1, 0)))) else (if p1 = 100 then gCl (fX4_signAt (p2 - 1) m1) fun m4 x5 => gLt ((if x5 = 48 then 49 else 48) : Int32) fun x7 => (if x2 < x7 then gRz .boolean 0 (some (m4, 0)) else gLt ((if x5 = 54 then 48 else 57) : Int32) fun x10 => (if x10 < x2 then gRz .boolean 0 (some (m4, 0)) else gRz .boolean 1 (some (m4, 1)))) else (if x2 < 48 then gRz .boolean 0 (some (m1, 0)) else (if p1 < x2 then gRz .boolean 0 (some (m1, 0)) else gRz .boolean 1 (some (m1, 1))))))
abbrev rmX4_isAllowed : Room := { frames := 1, cells := 0, slots := 0, locals := 21 }
def fX4_firstError_L42 (v1 : Int32) (a2 : Nat) (a2n : Nat) (r14 : Int32 → gM → Option (gM × Int32)) : Nat → Int32 → gM → Option (gM × Int32)
  | 0, _, _ => none
  | n + 1, v3, m => gCl (fJ0_length_8abf5 a2n m) fun m16 x17 => (if x17 ≤ v3 then gCl (fX4_formLength v1 m16) fun m19 x20 => gLt ((v1 + (1 + x20))) fun x22 => r14 x22 m19 else gCl (fJ0_charAt_5068e a2n v3 m16) fun m23 x24 => gCl (fX4_isAllowed x24 ((v1 + 1) + v3) m23) fun m26 x27 => (if x27 = 0 then some (m26, ((v1 + 1) + v3)) else gLt (v3 + 1) fun x29 => fX4_firstError_L42 v1 a2 a2n r14 n x29 m26))
def fX4_firstError_L14  : Nat → Int32 → gM → Option (gM × Int32)
  | 0, _, _ => none
  | n + 1, v1, m => gLt (m (6 + 1)) fun x4 => (if x4 ≤ v1 then some (m, (-1)) else gCl (fX4_signAt v1 m) fun m5 x6 => gCl (fX4_formOf x6 m5) fun m8 x9 => gOkS x9 fun i11 => gCl (fJ0_isEmpty_aae02 i11 m8) fun m13 x14 => (if x14 = 0 then fX4_firstError_L42 v1 (20030 + i11) i11 (fX4_firstError_L14 n) gFU 0 m13 else some (m13, v1)))
def fX4_firstError  (m : gM) : Option (gM × Int32) := gCl (fX4_signAt 0 m) fun m1 x2 => (if x2 = 66 then fX4_firstError_L14 gFU 1 m1 else some (m1, 0))
abbrev rmX4_firstError : Room := { frames := 4, cells := 0, slots := 0, locals := 85 }
def fX4_numberAt_L5 (v1 : Int32) (v2 : Int32) : Nat → Int32 → Int32 → gM → Option (gM × Int32)
  | 0, _, _, _ => none
  | n + 1, v3, v4, m => (if v2 ≤ v4 then some (m, v3) else gCl (fX4_signAt (v1 + v4) m) fun m1 x2 => gLt ((((v3 * 10) + x2) - 48)) fun x4 => gLt (v4 + 1) fun x5 => fX4_numberAt_L5 v1 v2 n x4 x5 m1)
def fX4_numberAt (p1 : Int32) (p2 : Int32) (m : gM) : Option (gM × Int32) := fX4_numberAt_L5 p1 p2 gFU 0 0 m
abbrev rmX4_numberAt : Room := { frames := 1, cells := 0, slots := 0, locals := 21 }
def fX4_doCommand (p1 : Int32) (a2 : Nat) (m : gM) : Option (gM × Int32) := gCl (fX4_numberAt (p1 + 1) 1 m) fun m1 x2 => gCl (fX4_signAt p1 m1) fun m4 x5 => (if x5 = 99 then gCl (fX4_numberAt (p1 + 2) 7 m4) fun m8 x9 => gCl (fX0_perform a2 0 x2 x9 0 m8) fun m11 x12 => some (m11, x12) else (if x5 = 104 then gCl (fX4_numberAt (p1 + 2) 2 m4) fun m15 x16 => gCl (fX4_numberAt (p1 + 4) 2 m15) fun m18 x19 => gCl (fX0_perform a2 2 x2 x16 x19 m18) fun m21 x22 => some (m21, x22) else (if x5 = 110 then gCl (fX4_numberAt (p1 + 2) 1 m4) fun m25 x26 => gCl (fX4_numberAt (p1 + 3) 1 m25) fun m28 x29 => gCl (fX0_perform a2 1 x2 x26 x29 m28) fun m31 x32 => some (m31, x32) else (if x5 = 115 then gCl (fX4_numberAt (p1 + 2) 2 m4) fun m35 x36 => gCl (fX0_perform a2 6 x2 x36 0 m35) fun m38 x39 => some (m38, x39) else (if x5 = 118 then gCl (fX4_numberAt (p1 + 2) 1 m4) fun m42 x43 => gCl (fX0_perform a2 5 x2 x43 0 m42) fun m45 x46 => some (m45, x46) else (if x5 = 120 then gCl (fX4_numberAt (p1 + 2) 1 m4) fun m49 x50 => gCl (fX4_signAt (p1 + 3) m49) fun m52 x53 => gLt ((if x53 = 43 then 1 else 0) : Int32) fun x55 => gCl (fX0_perform a2 4 x2 x50 x55 m52) fun m58 x59 => some (m58, x59) else gCl (fX4_numberAt (p1 + 1) 2 m4) fun m61 x62 => gCl (fX0_perform a2 7 x62 0 0 m61) fun m64 x65 => some (m64, x65)))))))
abbrev rmX4_doCommand : Room := { frames := 5, cells := 0, slots := 0, locals := 119 }
def fX5_tellEachStreet_L6  : Nat → Int32 → Int32 → Int32 → gM → Option (gM × Int32)
  | 0, _, _, _, _ => none
  | n + 1, v1, v2, v3, m => (if 4 ≤ v3 then (if v1 = 15 then gRz .boolean 1 (some (m, 1)) else gRz .boolean 0 (some (m, 0))) else gLt ((v1 ||| (1 <<< ((v2 - v2 / 4 * 4) &&& 31)))) fun x1 => gLt ((v2 / 4)) fun x2 => gLt (v3 + 1) fun x3 => fX5_tellEachStreet_L6 n x1 x2 x3 m)
def fX5_tellEachStreet (p1 : Int32) (m : gM) : Option (gM × Int32) := fX5_tellEachStreet_L6 gFU 0 p1 0 m
abbrev rmX5_tellEachStreet : Room := { frames := 0, cells := 0, slots := 0, locals := 0 }
def fX5_succeeds (p1 : Int32) (m : gM) : Option (gM × Int32) := gLt (((p1 / 10000) - (p1 / 10000) / 10 * 10)) fun x1 => gLt (((p1 / 1000) - (p1 / 1000) / 10 * 10)) fun x2 => gLt (((p1 / 100) - (p1 / 100) / 100 * 100)) fun x3 => gLt ((p1 - p1 / 10 * 10)) fun x4 => gLt ((p1 - p1 / 100 * 100)) fun x5 => (if (p1 / 100000) = 1 then (if x1 = 0 then (if x3 = 0 then gCl (fX0_perform 436 7 x5 0 0 m) fun m8 x9 => (if x9 = (-1) then gRz .boolean 0 (some (m8, 0)) else gRz .boolean 1 (some (m8, 1))) else gRz .boolean 0 (some (m, 0))) else gRz .boolean 0 (some (m, 0))) else (if (p1 / 100000) = 2 then (if x5 = 0 then gCl (fX0_perform 436 1 x1 x2 (x3 - x3 / 10 * 10) m) fun m13 x14 => (if x14 = (-1) then gRz .boolean 0 (some (m13, 0)) else gRz .boolean 1 (some (m13, 1))) else gRz .boolean 0 (some (m, 0))) else (if (p1 / 100000) = 3 then gCl (fX0_perform 436 2 x1 x3 x5 m) fun m18 x19 => (if x19 = (-1) then gRz .boolean 0 (some (m18, 0)) else gRz .boolean 1 (some (m18, 1))) else (if (p1 / 100000) = 4 then (if ((p1 / 10) - (p1 / 10) / 100 * 100) = 0 then (if 1 < x4 then gRz .boolean 0 (some (m, 0)) else gCl (fX0_perform 436 4 x1 x2 x4 m) fun m23 x24 => (if x24 = (-1) then gRz .boolean 0 (some (m23, 0)) else gRz .boolean 1 (some (m23, 1)))) else gRz .boolean 0 (some (m, 0))) else (if (p1 / 100000) = 5 then (if (p1 - p1 / 1000 * 1000) = 0 then gCl (fX0_perform 436 5 x1 x2 0 m) fun m28 x29 => (if x29 = (-1) then gRz .boolean 0 (some (m28, 0)) else gRz .boolean 1 (some (m28, 1))) else gRz .boolean 0 (some (m, 0))) else (if (p1 / 100000) = 6 then (if x3 = 0 then gCl (fX0_perform 436 6 x1 x5 0 m) fun m33 x34 => (if x34 = (-1) then gRz .boolean 0 (some (m33, 0)) else gRz .boolean 1 (some (m33, 1))) else gRz .boolean 0 (some (m, 0))) else (if (p1 / 100000) = 7 then (if x3 = 0 then gCl (fX0_hasCustomer 436 x1 m) fun m38 x39 => (if x39 = 0 then gRz .boolean 0 (some (m38, 0)) else gEl 10 x1 fun c43 => gLt (m38 (((436 + 11) + 57 + 24 * c43) + 1)) fun x45 => (if x5 < x45 then gRz .boolean 0 (some (m38, 0)) else gRz .boolean 1 (some (m38, 1)))) else gRz .boolean 0 (some (m, 0))) else (if (p1 / 100000) = 8 then (if ((p1 / 10) - (p1 / 10) / 1000 * 1000) = 0 then gCl (fX0_hasCustomer 436 x1 m) fun m48 x49 => (if x49 = 0 then gRz .boolean 0 (some (m48, 0)) else gCl (fX0_reasonFor 436 x1 m48) fun m52 x53 => (if x53 = x4 then gRz .boolean 1 (some (m52, 1)) else gRz .boolean 0 (some (m52, 0)))) else gRz .boolean 0 (some (m, 0))) else (if (p1 / 100000) = 9 then (if x1 = 0 then gCl (fX0_loavesGot 436 m) fun m57 x58 => (if x58 < (p1 - p1 / 10000 * 10000) then gRz .boolean 0 (some (m57, 0)) else gRz .boolean 1 (some (m57, 1))) else gRz .boolean 0 (some (m, 0))) else gRz .boolean 0 (some (m, 0)))))))))))
abbrev rmX5_succeeds : Room := { frames := 5, cells := 0, slots := 0, locals := 119 }
def fX5_takeTurn (p1 : Int32) (m : gM) : Option (gM) := gLt ((p1 / 8)) fun x1 => (if (p1 - p1 / 8 * 8) = 0 then gCl (fX0_perform 436 0 (x1 - x1 / 4 * 4) ((x1 / 4) - (x1 / 4) / 10000000 * 10000000) 0 m) fun m4 x5 => some m4 else (if (p1 - p1 / 8 * 8) = 1 then gCl (fX0_perform 436 1 (x1 - x1 / 10 * 10) ((x1 / 16) - (x1 / 16) / 7 * 7) ((x1 / 128) - (x1 / 128) / 10 * 10) m) fun m9 x10 => some m9 else (if (p1 - p1 / 8 * 8) = 2 then gLt (m (436 + 1)) fun x14 => gLt ((x14 + ((x1 / 16) - (x1 / 16) / 20 * 20))) fun x15 => gCl (fX0_perform 436 2 (x1 - x1 / 10 * 10) x15 (x15 + ((x1 / 512) - (x1 / 512) / 9 * 9)) m) fun m17 x18 => some m17 else (if (p1 - p1 / 8 * 8) = 3 then gLt ((if ((x1 / 32) - (x1 / 32) / 3 * 3) = 0 then 1 else 0) : Int32) fun x22 => gCl (fX0_perform 436 4 (x1 - x1 / 4 * 4) ((x1 / 4) - (x1 / 4) / 7 * 7) x22 m) fun m25 x26 => some m25 else (if (p1 - p1 / 8 * 8) = 4 then gCl (fX0_perform 436 5 (x1 - x1 / 4 * 4) ((x1 / 4) - (x1 / 4) / 4 * 4) 0 m) fun m30 x31 => some m30 else (if (p1 - p1 / 8 * 8) = 5 then (if ((x1 / 128) - (x1 / 128) / 2 * 2) = 0 then gCl (fX0_perform 436 6 0 (x1 - x1 / 100 * 100) 0 m) fun m39 x40 => some m39 else gCl (fX0_perform 436 6 (1 + (x1 - x1 / 3 * 3)) ((x1 / 4) - (x1 / 4) / 10 * 10) 0 m) fun m35 x36 => some m35) else gCl (fX0_perform 436 7 (1 + (x1 - x1 / 9 * 9)) 0 0 m) fun m43 x44 => some m43))))))
abbrev rmX5_takeTurn : Room := { frames := 5, cells := 0, slots := 0, locals := 119 }
def fX5_isSlot (p1 : Int32) (m : gM) : Option (gM × Int32) := gCl (fX5_isWithin p1 0 1 m) fun m1 x2 => gRz .boolean x2 (some (m1, x2))
abbrev rmX5_isSlot : Room := { frames := 1, cells := 0, slots := 0, locals := 22 }
