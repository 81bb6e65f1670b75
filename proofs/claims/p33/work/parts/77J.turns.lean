/-! the law's turns, one behind another -/
theorem clV_n (L : Nat) (xs : Nat → Int32) (k : Int32) : ∃ n, clV L xs k = i3 n ∧ n < 2147483648 := by
  unfold clV
  obtain ⟨y, hy⟩ : ∃ y : Int32, y = (if k < Int32.ofNat L then xs k.toNatClampNeg else 15519947 * (k + 3) + 11923) := ⟨_, rfl⟩
  rw [← hy]
  have e : (y &&& 2147483647).toBitVec.toNat ≤ 2147483647 := by
    rw [Int32.toBitVec_and, BitVec.toNat_and]
    exact Nat.and_le_right
  have h0 : 0 ≤ (y &&& 2147483647).toInt := by
    show 0 ≤ (y &&& 2147483647).toBitVec.toInt
    rw [BitVec.toInt_eq_toNat_of_lt (by omega)]
    omega
  obtain ⟨n, h1, h2, -⟩ := i3x _ h0
  exact ⟨n, h1, h2⟩
theorem e_cell {L : Nat} {xs : Nat → Int32} {k : Nat} {s : gS} (hk : k < 1000) : ∃ n, aL_cell L xs (i3 k) s = some (s, i3 n) ∧ n < 2147483648 := by
  obtain ⟨n, h1, h2⟩ := clV_n L xs (i3 k)
  refine ⟨n, ?_, h2⟩
  unfold aL_cell
  rw [if_pos (by rw [n0, i3le (by omega) (by omega)]; omega), h1]
section TU
variable {P : gS → Int32 → Prop} {L : Nat} {xs : Nat → Int32}
set_option maxRecDepth 16384 in
theorem tu_L {N : Nat} (hN : N ≤ 36) {K : Int32 → gS × Nat → Option (gS × Int32)} (hK : ∀ s m, m ≤ 60000 → Ok (K 1 (s, m)) P) : ∀ (f j k c : Nat) (t : gT), k + j = N → j < f → c + 1600 * j ≤ 60000 → Lv (9 * k) t → Ok (fL_law_L139 L xs (i3 N) K f 1 (i3 k) ((t, t), c)) P := by
  intro f
  induction f with
  | zero => intro j k c t h1 h2; omega
  | succ f ih =>
    intro j k c t hj hf hc hL
    unfold fL_law_L139
    cases j with
    | zero => exact ok_T (by rw [i3le (by omega) (by omega)]; omega) (hK _ _ (by omega))
    | succ j =>
      refine ok_F (by rw [i3le (by omega) (by omega)]; omega) ?_
      refine ok_F (by decide) ?_
      rw [n2, i3a]
      obtain ⟨x, x1, x2⟩ := e_cell (L := L) (xs := xs) (k := 2 + k) (s := (t, t)) (by omega)
      refine ok_c x1 (by omega) ?_
      obtain ⟨⟨t1, v⟩, l1, l2⟩ := act_ok hL (by omega) x2
      have b1 := l2 0 (t, t) gsel0
      have b2 := l2 5693 (t1, t) gsel1
      rw [gput0] at b1
      rw [gput1] at b2
      have l1' : Lv (9 * (k + 1)) t1 := l1.le (by omega)
      refine ok_c b1 (by omega) ?_
      rw [n100000, i3r x2 (by omega), n1000, i3r x2 (by omega), show (5000 : Int32) = i3 5000 from rfl, i3r x2 (by omega), n7, i3d x2 (by omega), n11, i3d x2 (by omega), n3, i3d x2 (by omega)]
      refine ok_c (rf_all (s := (t1, t)) gsel1 ⟨hL.1.1.1.1, Nat.le_trans hL.1.1.1.2.1 (by omega), hL.1.1.1.2.2⟩ (by have := hL.2.1; omega) (by omega)) (by omega) ?_
      refine ok_F (by decide) ?_
      refine ok_c b2 (by omega) ?_
      refine ok_T rfl ?_
      refine ok_c (rf_all (s := (t1, t1)) (t := t1) gsel1 ⟨l1'.1.1.1.1, Nat.le_trans l1'.1.1.1.2.1 (by omega), l1'.1.1.1.2.2⟩ (by have := l1'.2.1; omega) (by omega)) (by omega) ?_
      refine ok_F (by decide) ?_
      refine ok_c (e_alike t1 _) (by omega) ?_
      refine ok_F (by decide) ?_
      refine ok_j (fun k42 h42 => ?_)
      have H42 : ∀ m, m ≤ c + 1000 → Ok (k42 ((t1, t1), m)) P := by
        intro m hm
        refine ok_k0 h42 ?_
        obtain ⟨u, g1, g2⟩ := e_goesOn l1' (by omega) (show x / 7 < 2147483648 by omega)
        refine ok_c g1 (by omega) ?_
        refine ok_F (by decide) ?_
        have lu : Lv (9 * (k + 1)) u := l1'.dp g2
        by_cases q : (0 : Int32) < i3 k - i3 k / i3 3 * i3 3
        · refine ok_T q ?_
          refine ok_j (fun y hy => ?_)
          rw [n1, i3a] at hy
          subst hy
          exact ih j (k + 1) _ u (by omega) (by omega) (by omega) lu
        · refine ok_F q ?_
          obtain ⟨u2, g3, g4⟩ := e_best lu (by omega) (show x / 11 < 2147483648 by omega)
          refine ok_c g3 (by omega) ?_
          refine ok_lF (by decide) ?_
          refine ok_j (fun y hy => ?_)
          rw [n1, i3a] at hy
          subst hy
          exact ih j (k + 1) _ u2 (by omega) (by omega) (by omega) (lu.dp g4)
      by_cases q : i3 k - i3 k / i3 2 * i3 2 = 0
      · refine ok_T q ?_
        refine ok_c (e_holds (s := (t1, t1)) gsel0 l1'.1 (by omega) (show x / 3 < 2147483648 by omega)) (by omega) ?_
        refine ok_F (by decide) ?_
        exact H42 _ (by omega)
      · refine ok_F q ?_
        refine ok_c (e_holds (s := (t1, t1)) gsel1 l1'.1 (by omega) (show x / 3 < 2147483648 by omega)) (by omega) ?_
        refine ok_F (by decide) ?_
        exact H42 _ (by omega)
end TU
theorem e9 {a x y : Nat} {s : gS} {t : gT} {z : Int32} (hs : gsel a s = t) (hx : x < 4) (hy : y < 10000000) (hn : t.1.1.1 0 < 10) : aL_call a 9 (i3 x) (i3 y) z s = some (gput a s (tpush t (nwS t.1.1 x y, nwD t.1.1 t.1.2)), i3 (t.1.1.1 0)) := by
  rw [eA hs sp9]
  unfold pCome
  rw [tactO (fr3O (show wi (i3 x) 0 3 = true from wiB (b := 3) (by omega) (by omega)) (show wi (i3 y) 0 9999999 = true from wiB (b := 9999999) (by omega) (by omega)) (decide_eq_true hn)), nVi (by omega), nVi (by omega)]
set_option maxRecDepth 16384 in
theorem law_ok (L : Nat) (xs : Nat → Int32) (hL : L ≤ 260) : ∃ o : gS × Int32, aL_lawB L xs ((t0, t0), 0) = some o ∧ o.2 = 1 := by
  suffices h : Ok (aL_lawB L xs ((t0, t0), 0)) (fun _ v => v = 1) from h
  unfold aL_lawB
  obtain ⟨x, x1, x2⟩ := e_cell (L := L) (xs := xs) (k := 0) (s := (t0, t0)) (by omega)
  refine ok_c x1 (by omega) ?_
  refine ok_j (fun x4 h4 => ?_)
  rw [n23, i3r x2 (by omega), n14, i3a] at h4
  subst h4
  obtain ⟨y, y1, y2⟩ := e_cell (L := L) (xs := xs) (k := 1) (s := (t0, t0)) (by omega)
  refine ok_c y1 (by omega) ?_
  have m1 : i3 y - i3 y / 4 * 4 = i3 (y % 4) := i3r (b := 4) y2 (by omega)
  have m2 : i3 y / 4 - i3 y / 4 / 10000000 * 10000000 = i3 (y / 4 % 10000000) := by rw [n4, i3d y2 (by omega), n10000000, i3r (by omega) (by omega)]
  have m3 : i3 y / 7 - i3 y / 7 / 4 * 4 = i3 (y / 7 % 4) := by rw [n7, i3d y2 (by omega), n4, i3r (by omega) (by omega)]
  have m4 : i3 y / 9 - i3 y / 9 / 10000000 * 10000000 = i3 (y / 9 % 10000000) := by rw [n9, i3d y2 (by omega), n10000000, i3r (by omega) (by omega)]
  rw [m1, m2, m3, m4]
  obtain ⟨a1, ha1⟩ : ∃ a1, a1 = y % 4 := ⟨_, rfl⟩
  obtain ⟨a2, ha2⟩ : ∃ a2, a2 = y / 4 % 10000000 := ⟨_, rfl⟩
  obtain ⟨a3, ha3⟩ : ∃ a3, a3 = y / 7 % 4 := ⟨_, rfl⟩
  obtain ⟨a4, ha4⟩ : ∃ a4, a4 = y / 9 % 10000000 := ⟨_, rfl⟩
  rw [← ha1, ← ha2, ← ha3, ← ha4]
  obtain ⟨t1, ht1⟩ : ∃ t1, t1 = tpush t0 (nwS t0.1.1 a1 a2, nwD t0.1.1 t0.1.2) := ⟨_, rfl⟩
  obtain ⟨t2, ht2⟩ : ∃ t2, t2 = tpush t1 (nwS t1.1.1 a3 a4, nwD t1.1.1 t1.1.2) := ⟨_, rfl⟩
  have c0 : t0.1.1.1 0 = 0 := rfl
  have c1 : t1.1.1.1 0 = 1 := by
    rw [ht1]
    show (up t0.1.1.1 0 (t0.1.1.1 0 + 1)) 0 = 1
    rw [up_s, c0]
  have c2 : t2.1.1.1 0 = 2 := by
    rw [ht2]
    show (up t1.1.1.1 0 (t1.1.1.1 0 + 1)) 0 = 2
    rw [up_s, c1]
  have d1 : t1.1.1.1 1 = 0 := by
    rw [ht1]
    show (up t0.1.1.1 0 (t0.1.1.1 0 + 1)) 1 = 0
    rw [up_n (by omega)]
    rfl
  have d2 : t2.1.1.1 1 = 0 := by
    rw [ht2]
    show (up t1.1.1.1 0 (t1.1.1.1 0 + 1)) 1 = 0
    rw [up_n (by omega)]
    exact d1
  have G0 : Gz 0 t0.1 := ⟨Iv0 0, rfl⟩
  have G1 : Gz 0 t1.1 := by
    rw [ht1]
    exact ⟨G0.1.nw (by rw [c0]; omega) (by omega), G0.2⟩
  have G2 : Gz 0 t2.1 := by
    rw [ht2]
    exact ⟨G1.1.nw (by rw [c1]; omega) (by omega), G1.2⟩
  have e1 : t1.2 = ([t0.1], t0.2.2) := by rw [ht1]; rfl
  have e2 : t2.2 = ([t1.1, t0.1], t0.2.2) := by
    rw [ht2]
    show ((t1.1 :: t1.2.1).take 14, t1.2.2) = _
    rw [e1]
    rfl
  have L2 : Lv (9 * 0) t2 := by
    refine ⟨G2, by omega, ?_, ?_, fun i hi => ?_⟩
    · rw [e2]
      exact ⟨G1, fun h => by omega, G0, fun h => by omega, trivial⟩
    · rw [e2]
      show 2 ≤ 14
      omega
    · rw [e2] at hi
      exact absurd (show (0 : Nat) = 1 from hi) (by omega)
  refine ok_c (s1 := (t1, t0)) (v := i3 0) (by rw [ht1]; exact e9 gsel0 (by omega) (by omega) (by rw [c0]; omega)) (by omega) ?_
  refine ok_j (fun k13 h13 => ?_)
  refine ok_T rfl ?_
  refine ok_c (s1 := (t1, t1)) (v := i3 0) (by
    have := e9 (a := 5693) (s := (t1, t0)) (z := 0) gsel1 (show a1 < 4 by omega) (show a2 < 10000000 by omega) (by rw [c0]; omega)
    rw [← ht1] at this
    exact this) (by omega) ?_
  refine ok_T rfl ?_
  refine ok_c (s1 := (t2, t1)) (v := i3 1) (by
    have := e9 (a := 0) (s := (t1, t1)) (z := 0) gsel0 (show a3 < 4 by omega) (show a4 < 10000000 by omega) (by rw [c1]; omega)
    rw [← ht2, c1] at this
    exact this) (by omega) ?_
  refine ok_T rfl ?_
  refine ok_c (s1 := (t2, t2)) (v := i3 1) (by
    have := e9 (a := 5693) (s := (t2, t1)) (z := 0) gsel1 (show a3 < 4 by omega) (show a4 < 10000000 by omega) (by rw [c1]; omega)
    rw [← ht2, c1] at this
    exact this) (by omega) ?_
  refine ok_T rfl ?_
  refine ok_k1 h13 ?_
  refine ok_j (fun k17 h17 => ?_)
  refine tu_L (N := 14 + x % 23) (by omega) (fun s m hm => ?_) gFU (14 + x % 23) 0 _ t2 (Nat.zero_add _) (by show _ < 5000; omega) (by omega) L2
  refine ok_k1 h17 ?_
  exact ok_b1 (ok_r hm rfl)
