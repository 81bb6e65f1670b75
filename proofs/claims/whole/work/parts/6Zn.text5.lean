/-! the text: each letter -/
theorem fg1z {n p h : Nat} {f : Nat → Nat} {m : gM} (hT : Tm n f m) (hp : m (5693 + 9) = i3 p) (hp2 : p < 1000000) (hh : h ≤ 9) : (al n f (48 + h) p = true → ∃ m', fX6_figures 0 1 0 (i3 h) m = some (m', i3 (sg n f p - 48)) ∧ Sp (p + 1) m m') ∧ (al n f (48 + h) p = false → fX6_figures 0 1 0 (i3 h) m = some (m, -1)) := fg1 (x := 0) hT hp hp2 (by omega) hh
theorem fg7 {n p x : Nat} {f : Nat → Nat} {m : gM} (hT : Tm n f m) (hp : m (5693 + 9) = i3 p) (hp2 : p < 1000) (hx : x < 100000000) : (fe n f (dgs 7) p = none → ∃ m', fX6_figures (i3 x) 1000000 0 9999999 m = some (m', i3 (nR n f p 7)) ∧ Sp (p + 7) m m') ∧ (∀ e, fe n f (dgs 7) p = some e → ∃ m', fX6_figures (i3 x) 1000000 0 9999999 m = some (m', -1) ∧ Sp e m m') := fgq 7 (by omega) 1000000 9999999 (by decide) (by decide) hT hp hp2 hx
theorem fg2 {n p x : Nat} {f : Nat → Nat} {m : gM} (hT : Tm n f m) (hp : m (5693 + 9) = i3 p) (hp2 : p < 1000) (hx : x < 100000000) : (fe n f (dgs 2) p = none → ∃ m', fX6_figures (i3 x) 10 0 99 m = some (m', i3 (nR n f p 2)) ∧ Sp (p + 2) m m') ∧ (∀ e, fe n f (dgs 2) p = some e → ∃ m', fX6_figures (i3 x) 10 0 99 m = some (m', -1) ∧ Sp e m m') := fgq 2 (by omega) 10 99 (by decide) (by decide) hT hp hp2 hx
theorem csz {m : gM} : fX6_customerSign m = fX6_figures 0 1 0 (i3 9) m := csg
theorem c_num1 {n p : Nat} {f : Nat → Nat} {m : gM} (h : Tc n f m) (hp : p < 1000) (hd : 48 ≤ sg n f p) : fX4_numberAt (i3 p) 1 m = some (m, i3 (sg n f p - 48)) := by
  have e := c_nuq (q := 1) h hp (by omega) (fun y hy => by rw [show p + y = p from by omega]; exact hd)
  rw [nR1] at e
  exact e
theorem c_num2 {n p : Nat} {f : Nat → Nat} {m : gM} (h : Tc n f m) (hp : p < 1000) (hd : ∀ y, y < 2 → 48 ≤ sg n f (p + y)) : fX4_numberAt (i3 p) 2 m = some (m, i3 (nR n f p 2)) := c_nuq (q := 2) h hp (by omega) hd
theorem c_num7 {n p : Nat} {f : Nat → Nat} {m : gM} (h : Tc n f m) (hp : p < 1000) (hd : ∀ y, y < 7 → 48 ≤ sg n f (p + y)) : fX4_numberAt (i3 p) 7 m = some (m, i3 (nR n f p 7)) := c_nuq (q := 7) h hp (by omega) hd
theorem ai1 (a : Nat) : i3 a + 1 = i3 (a + 1) := i3a a 1
theorem ai2 (a : Nat) : i3 a + 2 = i3 (a + 2) := i3a a 2
theorem ai3 (a : Nat) : i3 a + 3 = i3 (a + 3) := i3a a 3
theorem ai4 (a : Nat) : i3 a + 4 = i3 (a + 4) := i3a a 4
section LETTERS
variable {n a B : Nat} {f : Nat → Nat} {S D : gB}
theorem st_c (hn : a < n) (hl : n ≤ 120) (hs : sg n f a = 99) : Er n f a ∧ (ck n f a = none → Iv B S D → ∃ S' D' w, Iv (B + 60) S' D' ∧ OkR n f a 8 S D S' D' w ∧ OkD n f a S D S' D' w) := by
  have hck : ck n f a = fe n f (51 :: dgs 7) (a + 1) := by
    unfold ck
    rw [hs]
    rfl
  refine ⟨fun e he m hT ha => ?_, fun he hI => ?_⟩
  · rw [hck] at he
    have sp : Sp (a + 1) m (upd m (5693 + 9) (i3 (a + 1))) := Sp.u
    have T5 := hT.sp sp
    obtain ⟨k1, k2⟩ := fg1z (h := 3) T5 sp.1 (by omega) (by omega)
    rcases fe_x he with ⟨c, e1⟩ | ⟨c, he2⟩
    · subst e1
      refine ⟨_, (rc_c hT ha hn hs).trans (wrp (b := false) ?_), sp⟩
      unfold fX6_readCustomer
      rw [ssg, k2 c, gClI, fg_no, gClI, if_pos rfl]
      rfl
    · have hd := al_k (h := 3) (by omega) c
      obtain ⟨m1, a1, a2⟩ := k1 c
      obtain ⟨m2, b1, b2⟩ := (fg7 (x := sg n f (a + 1) - 48) (T5.sp a2) a2.1 (by omega) (by omega)).2 e he2
      refine ⟨m2, (rc_c hT ha hn hs).trans (wrp (b := false) ?_), (sp.tr a2).tr b2⟩
      unfold fX6_readCustomer
      rw [ssg, a1, gClI, b1, gClI, if_pos rfl]
      rfl
  · rw [hck] at he
    obtain ⟨c, w⟩ := fe_c he
    have hd := al_k (h := 3) (by omega) c
    obtain ⟨h48, hlt⟩ := dgs_ok 7 _ w
    refine okA (ta_c (st := sg n f (a + 1) - 48) (L := nR n f (a + 1 + 1) 7) hI (by omega) (by omega)) gkA (fun m hT ha => ?_) (fun m hT => ?_)
    · have sp : Sp (a + 1) m (upd m (5693 + 9) (i3 (a + 1))) := Sp.u
      have T5 := hT.sp sp
      obtain ⟨m1, a1, a2⟩ := (fg1z (h := 3) T5 sp.1 (by omega) (by omega)).1 c
      obtain ⟨m2, b1, b2⟩ := (fg7 (x := sg n f (a + 1) - 48) (T5.sp a2) a2.1 (by omega) (by omega)).1 w
      refine ⟨m2, (sp.tr a2).tr b2, fun m' hm' => (rc_c hT ha hn hs).trans (wrp (b := true) ?_)⟩
      unfold fX6_readCustomer
      rw [ssg, a1, gClI, b1, gClI, if_neg (i3ne (by omega))]
      exact hm'
    · unfold fX4_doCommand
      rw [ai1, c_num1 hT (by omega) hd.1, gClI, c_sign hT (by omega), gClI, hs, if_pos (by decide), ai2, c_num7 hT (by omega) h48, gClI, gClE]
theorem st_n (hn : a < n) (hl : n ≤ 120) (hs : sg n f a = 110) : Er n f a ∧ (ck n f a = none → Iv B S D → ∃ S' D' w, Iv (B + 60) S' D' ∧ OkR n f a 3 S D S' D' w ∧ OkD n f a S D S' D' w) := by
  have hck : ck n f a = fe n f [57, 54, 57] (a + 1) := by
    unfold ck
    rw [hs]
    rfl
  refine ⟨fun e he m hT ha => ?_, fun he hI => ?_⟩
  · rw [hck] at he
    have sp : Sp (a + 1) m (upd m (5693 + 9) (i3 (a + 1))) := Sp.u
    have T5 := hT.sp sp
    obtain ⟨k1, k2⟩ := fg1z (h := 9) T5 sp.1 (by omega) (by omega)
    rcases fe_x he with ⟨c, e1⟩ | ⟨c, he2⟩
    · subst e1
      refine ⟨_, (rc_n hT ha hn hs).trans (wrp (b := false) ?_), sp⟩
      unfold fX6_readChange
      rw [csz, k2 c, gClI, fg_no, gClI, fg_no, gClI, if_pos rfl]
      rfl
    · have hd := al_k (h := 9) (by omega) c
      obtain ⟨m1, a1, a2⟩ := k1 c
      obtain ⟨j1, j2⟩ := fg1 (x := sg n f (a + 1) - 48) (h := 6) (T5.sp a2) a2.1 (by omega) (by omega) (by omega)
      rcases fe_x he2 with ⟨c2, e1⟩ | ⟨c2, he3⟩
      · subst e1
        refine ⟨_, (rc_n hT ha hn hs).trans (wrp (b := false) ?_), sp.tr a2⟩
        unfold fX6_readChange
        rw [csz, a1, gClI, n6, j2 c2, gClI, fg_no, gClI, if_pos rfl]
        rfl
      · have hd2 := al_k (h := 6) (by omega) c2
        obtain ⟨m2, b1, b2⟩ := j1 c2
        obtain ⟨-, j4⟩ := fg1 (x := sg n f (a + 1 + 1) - 48) (h := 9) ((T5.sp a2).sp b2) b2.1 (by omega) (by omega) (by omega)
        rcases fe_x he3 with ⟨c3, e1⟩ | ⟨c3, he4⟩
        · subst e1
          refine ⟨_, (rc_n hT ha hn hs).trans (wrp (b := false) ?_), (sp.tr a2).tr b2⟩
          unfold fX6_readChange
          rw [csz, a1, gClI, n6, b1, gClI, n9, j4 c3, gClI, if_pos rfl]
          rfl
        · cases he4
  · rw [hck] at he
    obtain ⟨c, w⟩ := fe_c he
    obtain ⟨c2, w2⟩ := fe_c w
    obtain ⟨c3, -⟩ := fe_c w2
    have hd := al_k (h := 9) (by omega) c
    have hd2 := al_k (h := 6) (by omega) c2
    have hd3 := al_k (h := 9) (by omega) c3
    refine okA (ta_n (c := sg n f (a + 1) - 48) (w := sg n f (a + 1 + 1) - 48) (x := sg n f (a + 1 + 1 + 1) - 48) hI (by omega) (by omega) (by omega)) gkA (fun m hT ha => ?_) (fun m hT => ?_)
    · have sp : Sp (a + 1) m (upd m (5693 + 9) (i3 (a + 1))) := Sp.u
      have T5 := hT.sp sp
      obtain ⟨m1, a1, a2⟩ := (fg1z (h := 9) T5 sp.1 (by omega) (by omega)).1 c
      obtain ⟨m2, b1, b2⟩ := (fg1 (x := sg n f (a + 1) - 48) (h := 6) (T5.sp a2) a2.1 (by omega) (by omega) (by omega)).1 c2
      obtain ⟨m3, d1, d2⟩ := (fg1 (x := sg n f (a + 1 + 1) - 48) (h := 9) ((T5.sp a2).sp b2) b2.1 (by omega) (by omega) (by omega)).1 c3
      refine ⟨m3, ((sp.tr a2).tr b2).tr d2, fun m' hm' => (rc_n hT ha hn hs).trans (wrp (b := true) ?_)⟩
      unfold fX6_readChange
      rw [csz, a1, gClI, n6, b1, gClI, n9, d1, gClI, if_neg (i3ne (by omega))]
      exact hm'
    · unfold fX4_doCommand
      rw [ai1, c_num1 hT (by omega) hd.1, gClI, c_sign hT (by omega), gClI, hs, if_neg (by decide), if_neg (by decide), if_pos (by decide), ai2, c_num1 hT (by omega) hd2.1, gClI, ai3, c_num1 hT (by omega) hd3.1, gClI, gClE]
theorem st_h (hn : a < n) (hl : n ≤ 120) (hs : sg n f a = 104) : Er n f a ∧ (ck n f a = none → Iv B S D → ∃ S' D' w, Iv (B + 60) S' D' ∧ OkR n f a 5 S D S' D' w ∧ OkD n f a S D S' D' w) := by
  have hck : ck n f a = fe n f (57 :: [57, 57, 57, 57]) (a + 1) := by
    unfold ck
    rw [hs]
    rfl
  have h4 : ∀ p, fe n f [57, 57, 57, 57] p = if fe n f (dgs 2) p = none then fe n f (dgs 2) (p + 2) else fe n f (dgs 2) p := fun p => by
    show (if al n f 57 p = true then (if al n f 57 (p + 1) = true then fe n f (dgs 2) (p + 2) else some (p + 1)) else some p) = if (if al n f 57 p = true then (if al n f 57 (p + 1) = true then none else some (p + 1)) else some p) = none then fe n f (dgs 2) (p + 2) else (if al n f 57 p = true then (if al n f 57 (p + 1) = true then none else some (p + 1)) else some p)
    cases al n f 57 p <;> cases al n f 57 (p + 1) <;> rfl
  refine ⟨fun e he m hT ha => ?_, fun he hI => ?_⟩
  · rw [hck] at he
    have sp : Sp (a + 1) m (upd m (5693 + 9) (i3 (a + 1))) := Sp.u
    have T5 := hT.sp sp
    obtain ⟨k1, k2⟩ := fg1z (h := 9) T5 sp.1 (by omega) (by omega)
    rcases fe_x he with ⟨c, e1⟩ | ⟨c, he2⟩
    · subst e1
      refine ⟨_, (rc_h hT ha hn hs).trans (wrp (b := false) ?_), sp⟩
      unfold fX6_readHoliday
      rw [csz, k2 c, gClI, fg_no, gClI, fg_no, gClI, if_pos rfl]
      rfl
    · have hd := al_k (h := 9) (by omega) c
      obtain ⟨m1, a1, a2⟩ := k1 c
      obtain ⟨j1, j2⟩ := fg2 (x := sg n f (a + 1) - 48) (T5.sp a2) a2.1 (by omega) (by omega)
      rw [h4] at he2
      by_cases c2 : fe n f (dgs 2) (a + 1 + 1) = none
      · rw [if_pos c2] at he2
        obtain ⟨m2, b1, b2⟩ := j1 c2
        have hlt := (dgs_ok 2 _ c2).2
        obtain ⟨m3, d1, d2⟩ := (fg2 (x := nR n f (a + 1 + 1) 2) ((T5.sp a2).sp b2) b2.1 (by omega) (by omega)).2 e he2
        refine ⟨m3, (rc_h hT ha hn hs).trans (wrp (b := false) ?_), ((sp.tr a2).tr b2).tr d2⟩
        unfold fX6_readHoliday
        rw [csz, a1, gClI, b1, gClI, d1, gClI, if_pos rfl]
        rfl
      · rw [if_neg c2] at he2
        obtain ⟨m2, b1, b2⟩ := j2 e he2
        refine ⟨m2, (rc_h hT ha hn hs).trans (wrp (b := false) ?_), (sp.tr a2).tr b2⟩
        unfold fX6_readHoliday
        rw [csz, a1, gClI, b1, gClI, fg_no, gClI, if_pos rfl]
        rfl
  · rw [hck] at he
    obtain ⟨c, w⟩ := fe_c he
    have hd := al_k (h := 9) (by omega) c
    rw [h4] at w
    by_cases c2 : fe n f (dgs 2) (a + 1 + 1) = none
    · rw [if_pos c2] at w
      obtain ⟨h48, hlt⟩ := dgs_ok 2 _ c2
      obtain ⟨h48', hlt'⟩ := dgs_ok 2 _ w
      refine okA (ta_h (c := sg n f (a + 1) - 48) (x := nR n f (a + 1 + 1) 2) (y := nR n f (a + 1 + 1 + 2) 2) hI (by omega) (by omega) (by omega)) gkA (fun m hT ha => ?_) (fun m hT => ?_)
      · have sp : Sp (a + 1) m (upd m (5693 + 9) (i3 (a + 1))) := Sp.u
        have T5 := hT.sp sp
        obtain ⟨m1, a1, a2⟩ := (fg1z (h := 9) T5 sp.1 (by omega) (by omega)).1 c
        obtain ⟨m2, b1, b2⟩ := (fg2 (x := sg n f (a + 1) - 48) (T5.sp a2) a2.1 (by omega) (by omega)).1 c2
        obtain ⟨m3, d1, d2⟩ := (fg2 (x := nR n f (a + 1 + 1) 2) ((T5.sp a2).sp b2) b2.1 (by omega) (by omega)).1 w
        refine ⟨m3, ((sp.tr a2).tr b2).tr d2, fun m' hm' => (rc_h hT ha hn hs).trans (wrp (b := true) ?_)⟩
        unfold fX6_readHoliday
        rw [csz, a1, gClI, b1, gClI, d1, gClI, if_neg (i3ne (by omega))]
        exact hm'
      · unfold fX4_doCommand
        rw [ai1, c_num1 hT (by omega) hd.1, gClI, c_sign hT (by omega), gClI, hs, if_neg (by decide), if_pos (by decide), ai2, c_num2 hT (by omega) h48, gClI, ai4, c_num2 hT (by omega) h48', gClI, gClE]
    · rw [if_neg c2] at w
      exact absurd w c2
theorem st_v (hn : a < n) (hl : n ≤ 120) (hs : sg n f a = 118) : Er n f a ∧ (ck n f a = none → Iv B S D → ∃ S' D' w, Iv (B + 60) S' D' ∧ OkR n f a 2 S D S' D' w ∧ OkD n f a S D S' D' w) := by
  have hck : ck n f a = fe n f [51, 51] (a + 1) := by
    unfold ck
    rw [hs]
    rfl
  refine ⟨fun e he m hT ha => ?_, fun he hI => ?_⟩
  · rw [hck] at he
    have sp : Sp (a + 1) m (upd m (5693 + 9) (i3 (a + 1))) := Sp.u
    have T5 := hT.sp sp
    obtain ⟨k1, k2⟩ := fg1z (h := 3) T5 sp.1 (by omega) (by omega)
    rcases fe_x he with ⟨c, e1⟩ | ⟨c, he2⟩
    · subst e1
      refine ⟨_, (rc_v hT ha hn hs).trans ?_, sp⟩
      rw [ssg, k2 c, gClI, ssg, fg_no, gClI, if_pos rfl]
      rfl
    · have hd := al_k (h := 3) (by omega) c
      obtain ⟨m1, a1, a2⟩ := k1 c
      obtain ⟨-, j2⟩ := fg1 (x := sg n f (a + 1) - 48) (h := 3) (T5.sp a2) a2.1 (by omega) (by omega) (by omega)
      rcases fe_x he2 with ⟨c2, e1⟩ | ⟨c2, he3⟩
      · subst e1
        refine ⟨_, (rc_v hT ha hn hs).trans ?_, sp.tr a2⟩
        rw [ssg, a1, gClI, ssg, j2 c2, gClI, if_pos rfl]
        rfl
      · cases he3
  · rw [hck] at he
    obtain ⟨c, w⟩ := fe_c he
    obtain ⟨c2, -⟩ := fe_c w
    have hd := al_k (h := 3) (by omega) c
    have hd2 := al_k (h := 3) (by omega) c2
    refine okA (ta_v (s := sg n f (a + 1) - 48) (t := sg n f (a + 1 + 1) - 48) hI (by omega) (by omega)) gkA (fun m hT ha => ?_) (fun m hT => ?_)
    · have sp : Sp (a + 1) m (upd m (5693 + 9) (i3 (a + 1))) := Sp.u
      have T5 := hT.sp sp
      obtain ⟨m1, a1, a2⟩ := (fg1z (h := 3) T5 sp.1 (by omega) (by omega)).1 c
      obtain ⟨m2, b1, b2⟩ := (fg1 (x := sg n f (a + 1) - 48) (h := 3) (T5.sp a2) a2.1 (by omega) (by omega) (by omega)).1 c2
      refine ⟨m2, (sp.tr a2).tr b2, fun m' hm' => (rc_v hT ha hn hs).trans ?_⟩
      rw [ssg, a1, gClI, ssg, b1, gClI, if_neg (i3ne (by omega))]
      exact hm'
    · unfold fX4_doCommand
      rw [ai1, c_num1 hT (by omega) hd.1, gClI, c_sign hT (by omega), gClI, hs, if_neg (by decide), if_neg (by decide), if_neg (by decide), if_neg (by decide), if_pos (by decide), ai2, c_num1 hT (by omega) hd2.1, gClI, gClE]
theorem st_s (hn : a < n) (hl : n ≤ 120) (hs : sg n f a = 115) : Er n f a ∧ (ck n f a = none → Iv B S D → ∃ S' D' w, Iv (B + 60) S' D' ∧ OkR n f a 3 S D S' D' w ∧ OkD n f a S D S' D' w) := by
  have hck : ck n f a = fe n f (52 :: dgs 2) (a + 1) := by
    unfold ck
    rw [hs]
    rfl
  refine ⟨fun e he m hT ha => ?_, fun he hI => ?_⟩
  · rw [hck] at he
    have sp : Sp (a + 1) m (upd m (5693 + 9) (i3 (a + 1))) := Sp.u
    have T5 := hT.sp sp
    obtain ⟨k1, k2⟩ := fg1z (h := 4) T5 sp.1 (by omega) (by omega)
    rcases fe_x he with ⟨c, e1⟩ | ⟨c, he2⟩
    · subst e1
      refine ⟨_, (rc_s hT ha hn hs).trans ?_, sp⟩
      rw [n4, k2 c, gClI, fg_no, gClI, if_pos rfl]
      rfl
    · have hd := al_k (h := 4) (by omega) c
      obtain ⟨m1, a1, a2⟩ := k1 c
      obtain ⟨m2, b1, b2⟩ := (fg2 (x := sg n f (a + 1) - 48) (T5.sp a2) a2.1 (by omega) (by omega)).2 e he2
      refine ⟨m2, (rc_s hT ha hn hs).trans ?_, (sp.tr a2).tr b2⟩
      rw [n4, a1, gClI, b1, gClI, if_pos rfl]
      rfl
  · rw [hck] at he
    obtain ⟨c, w⟩ := fe_c he
    have hd := al_k (h := 4) (by omega) c
    obtain ⟨h48, hlt⟩ := dgs_ok 2 _ w
    refine okA (ta_s (i := sg n f (a + 1) - 48) (x := nR n f (a + 1 + 1) 2) hI (by omega) (by omega)) gkA (fun m hT ha => ?_) (fun m hT => ?_)
    · have sp : Sp (a + 1) m (upd m (5693 + 9) (i3 (a + 1))) := Sp.u
      have T5 := hT.sp sp
      obtain ⟨m1, a1, a2⟩ := (fg1z (h := 4) T5 sp.1 (by omega) (by omega)).1 c
      obtain ⟨m2, b1, b2⟩ := (fg2 (x := sg n f (a + 1) - 48) (T5.sp a2) a2.1 (by omega) (by omega)).1 w
      refine ⟨m2, (sp.tr a2).tr b2, fun m' hm' => (rc_s hT ha hn hs).trans ?_⟩
      rw [n4, a1, gClI, b1, gClI, if_neg (i3ne (by omega))]
      exact hm'
    · unfold fX4_doCommand
      rw [ai1, c_num1 hT (by omega) hd.1, gClI, c_sign hT (by omega), gClI, hs, if_neg (by decide), if_neg (by decide), if_neg (by decide), if_pos (by decide), ai2, c_num2 hT (by omega) h48, gClI, gClE]
theorem st_d (hn : a < n) (hl : n ≤ 120) (hB : B < 100000) (hs : sg n f a = 100) : Er n f a ∧ (ck n f a = none → Iv B S D → ∃ S' D' w, Iv (B + 60) S' D' ∧ OkR n f a 2 S D S' D' w ∧ OkD n f a S D S' D' w) := by
  have hck : ck n f a = fe n f [54, 100] (a + 1) := by
    unfold ck
    rw [hs]
    rfl
  refine ⟨fun e he m hT ha => ?_, fun he hI => ?_⟩
  · rw [hck] at he
    have sp : Sp (a + 1) m (upd m (5693 + 9) (i3 (a + 1))) := Sp.u
    have T5 := hT.sp sp
    obtain ⟨m1, a1, a2⟩ := (fgd T5 sp.1 (by omega)).2 e he
    refine ⟨m1, (rc_d hT ha hn hs).trans ?_, sp.tr a2⟩
    rw [a1, gClI, if_pos rfl]
    rfl
  · rw [hck] at he
    have he' := he
    obtain ⟨c, w⟩ := fe_c he
    obtain ⟨c2, -⟩ := fe_c w
    have h48 : ∀ y, y < 2 → 48 ≤ sg n f (a + 1 + y) := fun y hy => by
      rcases (show y = 0 ∨ y = 1 by omega) with q | q <;> subst q
      · exact al48 c (by decide)
      · exact al48 c2 (by decide)
    have hnn : 1 ≤ nR n f (a + 1) 2 ∧ nR n f (a + 1) 2 ≤ 60 := by
      have b1 := al_k (h := 6) (by omega) c
      have b2 := al48 c2 (by decide)
      have e1 : al n f 100 (a + 1 + 1) = decide ((if sg n f (a + 1) = 48 then 49 else 48) ≤ sg n f (a + 1 + 1) ∧ sg n f (a + 1 + 1) ≤ (if sg n f (a + 1) = 54 then 48 else 57)) := by
        unfold al
        rw [if_neg (by decide), if_pos rfl, show a + 1 + 1 - 1 = a + 1 from rfl]
      rw [e1] at c2
      obtain ⟨q1, q2⟩ := of_decide_eq_true c2
      have eN : nR n f (a + 1) 2 = (sg n f (a + 1) - 48) * 10 + (sg n f (a + 1 + 1) - 48) := by
        show (sg n f (a + 1) - 48) * 10 ^ 1 + ((sg n f (a + 1 + 1) - 48) * 10 ^ 0 + 0) = _
        omega
      rw [eN]
      constructor
      · split at q1 <;> omega
      · split at q2 <;> omega
    refine okA (ta_d (a := nR n f (a + 1) 2) hI hB hnn.1 hnn.2) gkA (fun m hT ha => ?_) (fun m hT => ?_)
    · have sp : Sp (a + 1) m (upd m (5693 + 9) (i3 (a + 1))) := Sp.u
      have T5 := hT.sp sp
      obtain ⟨-, -, m1, a1, a2⟩ := (fgd T5 sp.1 (by omega)).1 he'
      refine ⟨m1, sp.tr a2, fun m' hm' => (rc_d hT ha hn hs).trans ?_⟩
      rw [a1, gClI, if_neg (i3ne (by omega))]
      exact hm'
    · unfold fX4_doCommand
      rw [ai1, c_num1 hT (by omega) (h48 0 (by omega)), gClI, c_sign hT (by omega), gClI, hs, if_neg (by decide), if_neg (by decide), if_neg (by decide), if_neg (by decide), if_neg (by decide), if_neg (by decide), c_num2 hT (by omega) h48, gClI, gClE]
theorem st_x (hn : a < n) (hl : n ≤ 120) (hs : sg n f a = 120) : Er n f a ∧ (ck n f a = none → Iv B S D → ∃ S' D' w, Iv (B + 60) S' D' ∧ OkR n f a 3 S D S' D' w ∧ OkD n f a S D S' D' w) := by
  have hck : ck n f a = fe n f [51, 54, 43] (a + 1) := by
    unfold ck
    rw [hs]
    rfl
  refine ⟨fun e he m hT ha => ?_, fun he hI => ?_⟩
  · rw [hck] at he
    have sp : Sp (a + 1) m (upd m (5693 + 9) (i3 (a + 1))) := Sp.u
    have T5 := hT.sp sp
    obtain ⟨k1, k2⟩ := fg1z (h := 3) T5 sp.1 (by omega) (by omega)
    rcases fe_x he with ⟨c, e1⟩ | ⟨c, he2⟩
    · subst e1
      refine ⟨_, (rc_x hT ha hn hs).trans (wrp (b := false) ?_), sp⟩
      unfold fX6_readClose
      rw [ssg, k2 c, gClI, fg_no, gClI, if_pos rfl]
      rfl
    · have hd := al_k (h := 3) (by omega) c
      obtain ⟨m1, a1, a2⟩ := k1 c
      obtain ⟨j1, j2⟩ := fg1 (x := sg n f (a + 1) - 48) (h := 6) (T5.sp a2) a2.1 (by omega) (by omega) (by omega)
      rcases fe_x he2 with ⟨c2, e1⟩ | ⟨c2, he3⟩
      · subst e1
        refine ⟨_, (rc_x hT ha hn hs).trans (wrp (b := false) ?_), sp.tr a2⟩
        unfold fX6_readClose
        rw [ssg, a1, gClI, n6, j2 c2, gClI, if_pos rfl]
        rfl
      · have hd2 := al_k (h := 6) (by omega) c2
        have hn3 := al_n c2
        obtain ⟨m2, b1, b2⟩ := j1 c2
        have T7 := (T5.sp a2).sp b2
        rcases fe_x he3 with ⟨c3, e1⟩ | ⟨c3, he4⟩
        · subst e1
          refine ⟨m2, (rc_x hT ha hn hs).trans (wrp (b := false) ?_), (sp.tr a2).tr b2⟩
          unfold fX6_readClose
          rw [ssg, a1, gClI, n6, b1, gClI, if_neg (i3ne (by omega)), b2.1, gLtI, T7.1, gLtI, iEq (by omega) (by omega)]
          by_cases q : a + 1 + 1 + 1 = n
          · rw [if_pos q]
            rfl
          · have hq : a + 1 + 1 + 1 < n := by omega
            have es : sg n f (a + 1 + 1 + 1) = f (a + 1 + 1 + 1) := if_pos hq
            unfold al at c3
            rw [if_pos rfl, es] at c3
            have c4 := of_decide_eq_false c3
            obtain ⟨g1, g2⟩ := T7.2.2 _ hq
            rw [if_neg q, gLtI, gRdI (by omega) (by omega), g1, show (43 : Int32) = i3 43 from rfl, iEq (by omega) (by omega), if_neg (fun z => c4 (Or.inl z)), gLtI, gRdI (by omega) (by omega), g1, show (45 : Int32) = i3 45 from rfl, iEq (by omega) (by omega), if_neg (fun z => c4 (Or.inr z))]
            rfl
        · cases he4
  · rw [hck] at he
    obtain ⟨c, w⟩ := fe_c he
    obtain ⟨c2, w2⟩ := fe_c w
    obtain ⟨c3, -⟩ := fe_c w2
    have hd := al_k (h := 3) (by omega) c
    have hd2 := al_k (h := 6) (by omega) c2
    have hn3 := al_n c3
    obtain ⟨v, hv⟩ : ∃ v, v = if sg n f (a + 1 + 1 + 1) = 43 then 1 else 0 := ⟨_, rfl⟩
    have hv1 : v ≤ 1 := by
      rw [hv]
      split <;> omega
    have hv2 : ((if i3 (sg n f (a + 1 + 1 + 1)) = 43 then 1 else 0) : Int32) = i3 v := by
      have h45 : sg n f (a + 1 + 1 + 1) = 43 ∨ sg n f (a + 1 + 1 + 1) = 45 := by
        unfold al at c3
        rw [if_pos rfl] at c3
        exact of_decide_eq_true c3
      rw [show (43 : Int32) = i3 43 from rfl, iEq (by omega) (by omega), hv]
      split <;> rfl
    refine okA (ta_x (st := sg n f (a + 1) - 48) (w := sg n f (a + 1 + 1) - 48) hI (by omega) (by omega) hv1) gkB (fun m hT ha => ?_) (fun m hT => ?_)
    · have sp : Sp (a + 1) m (upd m (5693 + 9) (i3 (a + 1))) := Sp.u
      have T5 := hT.sp sp
      obtain ⟨m1, a1, a2⟩ := (fg1z (h := 3) T5 sp.1 (by omega) (by omega)).1 c
      obtain ⟨m2, b1, b2⟩ := (fg1 (x := sg n f (a + 1) - 48) (h := 6) (T5.sp a2) a2.1 (by omega) (by omega) (by omega)).1 c2
      have T7 := (T5.sp a2).sp b2
      have es : sg n f (a + 1 + 1 + 1) = f (a + 1 + 1 + 1) := if_pos hn3
      obtain ⟨g1, g2⟩ := T7.2.2 _ hn3
      rw [es] at hv2
      have sp3 : Sp (a + 1 + 1 + 1 + 1) m2 (upd m2 (5693 + 9) (i3 (a + 1 + 1 + 1 + 1))) := Sp.u
      have h45 : f (a + 1 + 1 + 1) = 43 ∨ f (a + 1 + 1 + 1) = 45 := by
        unfold al at c3
        rw [if_pos rfl, es] at c3
        exact of_decide_eq_true c3
      refine ⟨_, ((sp.tr a2).tr b2).tr sp3, fun m' hm' => (rc_x hT ha hn hs).trans (wrp (b := true) ?_)⟩
      unfold fX6_readClose
      rw [ssg, a1, gClI, n6, b1, gClI, if_neg (i3ne (by omega)), b2.1, gLtI, T7.1, gLtI, iEq (by omega) (by omega), if_neg (by omega), gLtI, gRdI (by omega) (by omega), g1]
      rcases h45 with q | q
      · rw [if_pos (by rw [q]; rfl), gLtI, gRdI (by omega) (by omega), g1, hv2, gLtI, gLtI, gLtI, ai1]
        exact hm'
      · rw [if_neg (by rw [q]; decide), gLtI, gRdI (by omega) (by omega), g1, if_pos (by rw [q]; rfl), gLtI, gRdI (by omega) (by omega), g1, hv2, gLtI, gLtI, gLtI, ai1]
        exact hm'
    · unfold fX4_doCommand
      rw [ai1, c_num1 hT (by omega) hd.1, gClI, c_sign hT (by omega), gClI, hs, if_neg (by decide), if_neg (by decide), if_neg (by decide), if_neg (by decide), if_neg (by decide), if_pos (by decide), ai2, c_num1 hT (by omega) hd2.1, gClI, ai3, c_sign hT (by omega), gClI, show a + 3 = a + 1 + 1 + 1 from rfl, hv2, gLtI, gClE]
end LETTERS
