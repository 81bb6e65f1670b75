/-! no round leaves less credits than the best one; the least oven is enough -/
theorem sH_s {S : gB} {i v : Nat} : (sH S i v).1 i = v := by
  show up S.1 i v i = v
  exact up_s
theorem sH_n {S : gB} {i j v : Nat} (h : j ≠ i) : (sH S i v).1 j = S.1 j := by
  show up S.1 i v j = S.1 j
  exact up_n h
section BE
variable {P : gS → Int32 → Prop}
theorem e13 {a x w : Nat} {s : gS} {u : gT} {z : Int32} (hs : gsel a s = u) (hx : x < 4) (hw : w < 4) : aL_call a 13 (i3 x) (i3 w) z s = some (gput a s (tpush u (swS u.1.1 x w, u.1.2)), i3 (plc u.1.1 w)) := by
  rw [eA hs sp13]
  unfold pSwap
  rw [tactO (fr3O (andT (show wi (i3 x) 0 3 = true from wiB (b := 3) (by omega) (by omega)) (show wi (i3 w) 0 3 = true from wiB (b := 3) (by omega) (by omega))) rfl rfl), nVi (by omega), nVi (by omega)]
theorem e14 {a i v : Nat} {s : gS} {u : gT} {z : Int32} (hs : gsel a s = u) (ho : stOk i v) : aL_call a 14 (i3 i) (i3 v) z s = some (gput a s (tpush u (sH u.1.1 (11 + i) v, u.1.2)), i3 (u.1.1.1 (11 + i))) := by
  have hi := stOk_i ho
  have hv : v < 2147483648 := by unfold stOk at ho; omega
  rw [eA hs sp14]
  unfold pSet
  rw [tactO (fr3O rfl (seT ho) rfl), nVi (by omega), nVi hv]
theorem b115 {B p w j m f : Nat} {u : gT} {v3 v4 v5 v7 : Int32} {K : Int32 → Int32 → gS × Nat → Option (gS × Int32)} (hI : Is B u.1.1) (hp : p < 3) (hw : w < 4) (hj : j < 100) (hm : m + 4 ≤ 250) (hx : (if i3 p = 0 then (v4 / 1000) else (if i3 p = 1 then ((v4 / 100) - (v4 / 100) / 10 * 10) else ((v4 / 10) - (v4 / 10) / 10 * 10)) : Int32) = i3 w) (hk : Ok (fL_best_L115 0 5693 v3 v4 v5 v7 K f 1 (i3 (j + 1)) (i3 (p + 1)) ((tpush u (swS u.1.1 (u.1.1.1 (16 + p)) w, u.1.2), tpush u (swS u.1.1 (u.1.1.1 (16 + p)) w, u.1.2)), m + 1 + 1 + 1 + 1)) P) : Ok (fL_best_L115 0 5693 v3 v4 v5 v7 K (f + 1) 1 (i3 j) (i3 p) ((u, u), m)) P := by
  conv => arg 1; unfold fL_best_L115
  refine ok_F (by rw [n3, i3le (by omega) (by omega)]; omega) ?_
  refine ok_F (by decide) ?_
  refine ok_j (fun x177 h177 => ?_)
  rw [hx] at h177
  subst h177
  have hpl : plc u.1.1 w < 4 := (plc_ok hI hw).1
  have ho : u.1.1.1 (16 + p) < 4 := hI.ord (by omega)
  refine ok_c (eV (s := (u, u)) gsel0 sp7 (q_round (by omega))) (by omega) ?_
  refine ok_c (e13 (s := (u, u)) gsel0 ho hw) (by omega) ?_
  refine ok_j (fun k189 h189 => ?_)
  refine ok_F (i3n (by omega)) ?_
  rw [gput0]
  refine ok_c (eV (s := (tpush u (swS u.1.1 (u.1.1.1 (16 + p)) w, u.1.2), u)) gsel1 sp7 (q_round (by omega))) (by omega) ?_
  refine ok_c (e13 (s := (tpush u (swS u.1.1 (u.1.1.1 (16 + p)) w, u.1.2), u)) gsel1 ho hw) (by omega) ?_
  refine ok_F (i3n (by omega)) ?_
  rw [gput1]
  refine ok_k1 h189 ?_
  refine ok_j (fun x191 h191 => ?_)
  refine ok_j (fun x192 h192 => ?_)
  rw [n1, i3a] at h191 h192
  subst h191 h192
  exact hk
theorem b313 {t : gT} (hl : t.2.1.length ≤ 14) {v3 : Int32} {n : Nat} (hn : n ≤ 14) {K : Int32 → gS × Nat → Option (gS × Int32)} : ∀ (f j k m : Nat) (u : gT), k + j = n → j < f → m + 2 * j ≤ 250 → Dp t u j → (∀ (u' : gT) (m' : Nat), m' ≤ m + 2 * j → Dp t u' 0 → Ok (K 1 ((u', u'), m')) P) → Ok (fL_best_L313 0 5693 v3 (i3 n) K f 1 (i3 k) ((u, u), m)) P := by
  intro f
  induction f with
  | zero => intro j k m u h1 h2; omega
  | succ f ih =>
    intro j k m u hj hf hm hD hk
    unfold fL_best_L313
    cases j with
    | zero =>
      exact ok_T (by rw [i3le (by omega) (by omega)]; omega) (hk u m (by omega) hD)
    | succ j =>
      refine ok_F (by rw [i3le (by omega) (by omega)]; omega) ?_
      refine ok_F (by decide) ?_
      obtain ⟨u', l, p1, p2, p3, -⟩ := hD.pop hl (by omega)
      have g2 : aL_call 0 16 0 0 0 (u, u) = some ((u', u), i3 l) := by
        rw [eA gsel0 sp16, p1]
        rfl
      have g3 : aL_call 5693 16 0 0 0 (u', u) = some ((u', u'), i3 l) := by
        rw [eA gsel1 sp16, p1]
        rfl
      refine ok_c g2 (by omega) ?_
      refine ok_c (thr0 (by omega)) (by omega) ?_
      refine ok_T rfl ?_
      refine ok_c g3 (by omega) ?_
      refine ok_c (thr0 (by omega)) (by omega) ?_
      refine ok_lT rfl ?_
      refine ok_j (fun y hy => ?_)
      rw [n1, i3a] at hy
      subst hy
      exact ih j (k + 1) _ u' (by omega) (by omega) (by omega) p3 (fun u2 m2 h1 h2 => hk u2 m2 (by omega) h2)
theorem b433 {B : Nat} {u : gT} (hI : Is B u.1.1) (hov : opdu u.1.1 (u.1.1.1 1) ≤ bk u.1.1 (u.1.1.1 1)) {v3 v10 v11 : Int32} {K : Int32 → gS × Nat → Option (gS × Int32)} : ∀ (f j c m : Nat), c + j = u.1.1.1 0 → j < f → m + 2 * j + 1 ≤ 250 → (∀ (m' : Nat), m' ≤ m + 2 * j + 1 → Ok (K 1 ((u, u), m')) P) → Ok (fL_best_L433 0 5693 v3 v10 v11 K f 1 (i3 c) ((u, u), m)) P := by
  intro f
  have hn := hI.1
  induction f with
  | zero => intro j c m h1 h2; omega
  | succ f ih =>
    intro j c m hj hf hm hk
    unfold fL_best_L433
    refine ok_c (eV (s := (u, u)) (v := i3 (u.1.1.1 0)) gsel0 sp2 (q_about (k := 0) (by omega))) (by omega) ?_
    cases j with
    | zero => exact ok_T (by rw [i3le (by omega) (by omega)]; omega) (hk _ (by omega))
    | succ j =>
      have hc : c < u.1.1.1 0 := by omega
      refine ok_F (by rw [i3le (by omega) (by omega)]; omega) ?_
      refine ok_F (by decide) ?_
      obtain ⟨w, ew, w5, -, -, -, -, -, -, wv⟩ := why_all hI hc
      obtain ⟨x1, x2⟩ := wv hov
      refine ok_c (eV (s := (u, u)) gsel0 sp17 ((q_why hc hn).trans ew)) (by omega) ?_
      refine ok_lF (by rw [n4, i3le (by omega) (by omega)]; omega) ?_
      refine ok_j (fun y hy => ?_)
      rw [n1, i3a] at hy
      subst hy
      exact ih j (c + 1) _ (by omega) (by omega) (by omega) (fun m2 h1 => hk m2 (by omega))
theorem e_isOrder {B e : Nat} {u : gT} (hI : Is B u.1.1) (he : e < 10000) (h0 : u.1.1.1 16 = e / 1000) (h1 : u.1.1.1 17 = e / 100 % 10) (h2 : u.1.1.1 18 = e / 10 % 10) (h3 : u.1.1.1 19 = e % 10) : aL_isOrder 0 (i3 e) (u, u) = some ((u, u), 1) := by
  refine ok_eq ?_
  unfold aL_isOrder aL_isOrderB
  refine ok_c (eV (s := (u, u)) gsel0 sp7 (q_round (k := 0) (by omega))) (by omega) ?_
  refine ok_T (by rw [n1000, i3d (by omega) (by omega)]; exact congrArg i3 h0) ?_
  refine ok_c (eV (s := (u, u)) gsel0 sp7 (q_round (k := 1) (by omega))) (by omega) ?_
  refine ok_T (by rw [n100, i3d (by omega) (by omega), n10, i3r (by omega) (by omega)]; exact congrArg i3 h1) ?_
  refine ok_c (eV (s := (u, u)) gsel0 sp7 (q_round (k := 2) (by omega))) (by omega) ?_
  refine ok_T (by rw [n10, i3d (by omega) (by omega), i3r (by omega) (by omega)]; exact congrArg i3 h2) ?_
  refine ok_c (eV (s := (u, u)) gsel0 sp7 (q_round (k := 3) (by omega))) (by omega) ?_
  refine ok_T (by rw [n10, i3r (by omega) (by omega)]; exact congrArg i3 h3) ?_
  exact ok_b1 (ok_r (by omega) ⟨rfl, rfl⟩)
end BE
theorem e_best {B p : Nat} {t : gT} (h : Lv B t) (hB : B ≤ 900) (hp : p < 2147483648) : ∃ u : gT, aL_best 0 5693 (i3 p) (t, t) = some ((u, u), 1) ∧ Dp t u 0 := by
  suffices hP : Ok (aL_best 0 5693 (i3 p) (t, t)) (fun s' v' => v' = 1 ∧ ∃ u : gT, s' = (u, u) ∧ Dp t u 0) by
    obtain ⟨⟨s', v'⟩, h1, h2, u', h3, h4⟩ := hP
    dsimp only at h2 h3
    exact ⟨u', by rw [h1, h2, h3], h4⟩
  have hl := h.2.2.2.1
  obtain ⟨z, hz⟩ : ∃ z, z = t.1 := ⟨_, rfl⟩
  have hG : Gz B z := hz ▸ h.1
  have hI := hG.1.1
  have hn := hI.1
  have hn2 : 2 ≤ z.1.1 0 := hz ▸ h.2.1
  have hU : ∀ (u : gT) (n : Nat), Dp t u (cl n) → n ≤ 240 → ∃ u' : gT, aL_undoes 0 5693 (i3 n) (u, u) = some ((u', u'), 1) ∧ u'.1 = z ∧ Dp t u' 0 := fun u n hD hn => by
    rw [hz]
    exact g_undoes hl hn hD
  unfold aL_best aL_bestB
  obtain ⟨n, hnd⟩ : ∃ n, n = 1 + p % 12 := ⟨_, rfl⟩
  refine ok_j (fun x1 h1 => ?_)
  rw [n12, i3r (by omega) (by omega), n1, i3a, ← hnd] at h1
  subst h1
  have hn1 : 1 ≤ n := by omega
  have hn12 : n ≤ 12 := by omega
  have hcl : cl n = 1 := by unfold cl; omega
  obtain ⟨e, k1, k2, k3, k4, k5⟩ := bst_ok z.1 z.2 n
  obtain ⟨o1, o2, o3, o4⟩ := now_ok hI
  have hb : qBest t (i3 n) = i3 e := by
    rw [q_best hn1 (by omega), ← hz]
    exact k1
  refine ok_c (eV (s := (t, t)) gsel0 sp21 hb) (by omega) ?_
  refine ok_c (eV (s := (t, t)) gsel0 sp7 (g_round (k := 0) hz.symm (by omega))) (by omega) ?_
  refine ok_c (eV (s := (t, t)) gsel0 sp7 (g_round (k := 1) hz.symm (by omega))) (by omega) ?_
  refine ok_c (eV (s := (t, t)) gsel0 sp7 (g_round (k := 2) hz.symm (by omega))) (by omega) ?_
  refine ok_c (eV (s := (t, t)) gsel0 sp7 (g_round (k := 3) hz.symm (by omega))) (by omega) ?_
  refine ok_j (fun x17 h17 => ?_)
  have h17' : x17 = i3 (nowO z.1) := by
    rw [h17, n1000, n100, n10, i3m, i3m, i3m, i3a, i3a, i3a]
    rfl
  clear h17
  subst h17'
  obtain ⟨u1, a1, a2, a3⟩ := g_waits (n := n) (Dp.rf (t := t)) h.1 (by omega) (show B + n ≤ 89900 by omega)
  rw [← hz] at a2
  refine ok_c a1 (by omega) ?_
  -- the credits behind these days
  have hcr : ∀ (u : gT) (S : gB), S.1 0 = z.1.1 0 → Gz B (S, z.2) → u.1 = daysZ n (S, z.2) → qAbout u 6 = i3 (sm (fun c => (daysZ n (S, z.2)).2.2 c 8) (z.1.1 0)) := fun u S hS0 hGS hu => by
    have q : qAbout u 6 = i3 (sm (fun c => (daysZ n (S, z.2)).2.2 c 8) ((daysZ n (S, z.2)).1.1 0)) := g_ab (k := 6) hu (by omega)
    rw [q, daysNz hGS n, hS0]
  have c0 : qAbout u1 6 = i3 (crd z.1 z.2 n (nowO z.1)) := by
    rw [hcr u1 z.1 rfl hG a2]
    unfold crd
    rw [o4]
  refine ok_c (eV (s := (u1, u1)) gsel0 sp2 c0) (by omega) ?_
  refine ok_j (fun k26 h26 => ?_)
  refine ok_F (by decide) ?_
  obtain ⟨u2, b1, b2, b3⟩ := hU u1 n a3 (by omega)
  refine ok_c b1 (by omega) ?_
  refine ok_F (by decide) ?_
  refine ok_k1 h26 ?_
  refine ok_j (fun k31 h31 => ?_)
  -- three exchanges
  have hIv : Iv B z.1 z.2 := hG.1
  obtain ⟨S1, S2, S3, e1, e2, e3, j1, j2, j3, e4, d0, d1, d2, d3⟩ := sw3 hIv k4
  obtain ⟨⟨f1, f2, f3, f4⟩, -⟩ := okR_d k4
  have hu2 : u2.1.1 = z.1 := by rw [b2]
  have hu2' : u2.1.2 = z.2 := by rw [b2]
  have w0 : tpush u2 (swS u2.1.1 (u2.1.1.1 (16 + 0)) (e / 1000), u2.1.2) = tpush u2 (S1, z.2) := by
    rw [hu2, hu2', e1]
  refine b115 (f := 4999) (p := 0) (w := e / 1000) (j := 0) (by rw [hu2]; exact hI) (by omega) f1 (by omega) (by omega) ?_ ?_
  · rw [if_pos n0.symm, n1000, i3d (by omega) (by omega)]
  rw [w0]
  have w1 : tpush (tpush u2 (S1, z.2)) (swS (tpush u2 (S1, z.2)).1.1 ((tpush u2 (S1, z.2)).1.1.1 (16 + 1)) (e / 100 % 10), (tpush u2 (S1, z.2)).1.2) = tpush (tpush u2 (S1, z.2)) (S2, z.2) := by
    rw [e2]
    rfl
  refine b115 (f := 4998) (p := 1) (w := e / 100 % 10) (j := 1) (u := tpush u2 (S1, z.2)) j1.1 (by omega) f2 (by omega) (by omega) ?_ ?_
  · rw [if_neg (by decide : ¬ i3 1 = 0), if_pos n1.symm, n100, i3d (by omega) (by omega), n10, i3r (by omega) (by omega)]
  rw [w1]
  have w2 : tpush (tpush (tpush u2 (S1, z.2)) (S2, z.2)) (swS (tpush (tpush u2 (S1, z.2)) (S2, z.2)).1.1 ((tpush (tpush u2 (S1, z.2)) (S2, z.2)).1.1.1 (16 + 2)) (e / 10 % 10), (tpush (tpush u2 (S1, z.2)) (S2, z.2)).1.2) = tpush (tpush (tpush u2 (S1, z.2)) (S2, z.2)) (S3, z.2) := by
    rw [e3]
    rfl
  refine b115 (f := 4997) (p := 2) (w := e / 10 % 10) (j := 2) (u := tpush (tpush u2 (S1, z.2)) (S2, z.2)) j2.1 (by omega) f3 (by omega) (by omega) ?_ ?_
  · rw [if_neg (by decide : ¬ i3 2 = 0), if_neg (by decide : ¬ i3 2 = 1), n10, i3d (by omega) (by omega), i3r (by omega) (by omega)]
  rw [w2]
  have D3 : Dp t (tpush (tpush (tpush u2 (S1, z.2)) (S2, z.2)) (S3, z.2)) 3 := ((b3.push (by omega)).push (by omega)).push (by omega)
  obtain ⟨u3, hu3⟩ : ∃ u3, u3 = tpush (tpush (tpush u2 (S1, z.2)) (S2, z.2)) (S3, z.2) := ⟨_, rfl⟩
  have v3 : u3.1 = (S3, z.2) := by rw [hu3]; rfl
  rw [← hu3] at D3 ⊢
  clear w0 w1 w2 hu3
  show Ok (fL_best_L115 0 5693 _ _ _ _ k31 (4996 + 1) 1 _ _ _) _
  unfold fL_best_L115
  refine ok_T (by decide) ?_
  refine ok_k2 h31 ?_
  refine ok_j (fun k35 h35 => ?_)
  refine ok_F (by decide) ?_
  refine ok_c (e_isOrder (B := B) (u := u3) (e := e) (by rw [v3]; exact j3.1) (by omega) (by rw [v3]; exact d0) (by rw [v3]; exact d1) (by rw [v3]; exact d2) (by rw [v3]; exact d3)) (by omega) ?_
  refine ok_F (by decide) ?_
  obtain ⟨u4, g1, g2, g3⟩ := e_waits (t := t) (u := u3) (j := 3) (n := n) (B := B) (by omega) (by omega) (by rw [v3]; exact j3) (by omega) D3
  rw [v3] at g2
  refine ok_c g1 (by omega) ?_
  refine ok_F (by decide) ?_
  refine ok_k1 h35 ?_
  have hS0 : S3.1 0 = z.1.1 0 := by
    rw [e4]
    rfl
  have c1 : qAbout u4 6 = i3 (crd z.1 z.2 n e) := by
    rw [hcr u4 S3 hS0 ⟨j3, hG.2⟩ g2]
    unfold crd
    rw [e4]
  refine ok_c (eV (s := (u4, u4)) gsel0 sp2 c1) (by omega) ?_
  refine ok_j (fun k42 h42 => ?_)
  refine ok_F (by decide) ?_
  have hc300 : ∀ d, okR d = true → crd z.1 z.2 n d ≤ 300 := fun d hd => (crd_le (p := n) hIv hd).1
  have hce := hc300 e k4
  have hcn := hc300 _ o3
  obtain ⟨u5, g4, g5⟩ := e_undoes (t := t) (u := u4) (n := n) (j := 3) hl (by omega) (by omega) g3
  refine ok_j (fun k166 h166 => ?_)
  have H166 : Ok (k166 ((u4, u4), 0 + 1 + 1 + 1 + 1 + 1 + 12 + 1 + 12 + 1 + 1 + 1 + 1 + 1 + 1 + 1 + 1 + 1 + 1 + 1 + 1 + 4 + 12 + 1)) (fun s' v' => v' = 1 ∧ ∃ u : gT, s' = (u, u) ∧ Dp t u 0) := by
    refine ok_k0 h166 ?_
    refine ok_c g4 (by omega) ?_
    refine ok_F (by decide) ?_
    refine ok_k1 h42 ?_
    refine ok_j (fun k46 h46 => ?_)
    refine b313 hl (n := 3) (by omega) gFU 3 0 _ u5 rfl (by show 3 < 5000; omega) (by omega) g5 ?_
    intro u6 m6 hm6 D6
    have v6 : u6.1 = z := D6.z.1.trans hz.symm
    refine ok_k1 h46 ?_
    obtain ⟨ov, hov⟩ : ∃ ov, ov = lov z.1 n (z.1.1 1) 0 := ⟨_, rfl⟩
    have hov9 : ov ≤ 90 := by rw [hov]; exact lov_le hI n _ 0 (by omega)
    have so : stOk 0 ov := Or.inl ⟨rfl, by omega⟩
    have q20 : ∀ u : gT, u.1.1.1 1 = z.1.1 1 → (∀ d, opdu u.1.1 d = opdu z.1 d) → qOven u (i3 n) = i3 ov := fun u e1 e2 => by
      rw [q_oven hn1 (by omega), e1, lov_eq e2, ← hov]
    refine ok_c (eV (s := (u6, u6)) gsel0 sp20 (q20 u6 (by rw [v6]) (fun d => by rw [v6]))) (by omega) ?_
    obtain ⟨u7, hu7⟩ : ∃ u7, u7 = tpush u6 (sH u6.1.1 (11 + 0) ov, u6.1.2) := ⟨_, rfl⟩
    have y1 : aL_call 0 14 0 (i3 ov) 0 (u6, u6) = some ((u7, u6), i3 (z.1.1 11)) := by
      have := e14 (a := 0) (s := (u6, u6)) (i := 0) (z := 0) gsel0 so
      rw [← hu7, gput0, v6] at this
      exact this
    have y2 : aL_call 5693 14 0 (i3 ov) 0 (u7, u6) = some ((u7, u7), i3 (z.1.1 11)) := by
      have := e14 (a := 5693) (s := (u7, u6)) (i := 0) (z := 0) gsel1 so
      rw [← hu7, gput1, v6] at this
      exact this
    have D7 : Dp t u7 1 := by rw [hu7]; exact D6.push (by omega)
    have v7 : u7.1 = (sH z.1 11 ov, z.2) := by
      rw [hu7]
      show (sH u6.1.1 11 ov, u6.1.2) = _
      rw [v6]
    have hl7 : u7.2.1.length ≤ 14 := by
      rw [hu7]
      show ((u6.1 :: u6.2.1).take 14).length ≤ 14
      rw [List.length_take]
      omega
    clear hu7
    refine ok_c y1 (by omega) ?_
    refine ok_j (fun k56 h56 => ?_)
    refine ok_F (by decide) ?_
    refine ok_c y2 (by omega) ?_
    refine ok_T rfl ?_
    refine ok_F (i3n (by omega)) ?_
    refine ok_F (by rw [show (90 : Int32) = i3 90 from rfl, i3lt (by omega) (by omega)]; omega) ?_
    refine ok_k1 h56 ?_
    refine ok_j (fun k60 h60 => ?_)
    -- the book with that oven
    have hop : ∀ d, opdu (sH z.1 11 ov) d = opdu z.1 d := fun d => (opdu_eq (S := z.1) (S' := sH z.1 11 ov) (sH_n (by omega)) (fun i hi => sH_n (by omega)) rfl d).1
    have hIo : Iv B (sH z.1 11 ov) z.2 := hIv.st so
    have h11 : (sH z.1 11 ov).1 11 = ov := sH_s
    have h1' : (sH z.1 11 ov).1 1 = z.1.1 1 := sH_n (by omega)
    obtain ⟨ok1, ok2⟩ := oven_ok (n := n) (z := (sH z.1 11 ov, z.2)) hIo (by
      show (sH z.1 11 ov).1 11 = lov (sH z.1 11 ov) n ((sH z.1 11 ov).1 1) 0
      rw [h11, h1', lov_eq hop, hov])
    refine b433 (B := B) (u := u7) (by rw [v7]; exact hIo.1) (by rw [v7]; exact ok2 (by omega)) gFU (u7.1.1.1 0) 0 _ (Nat.zero_add _) (by rw [v7]; have := hIo.1.1; show (sH z.1 11 ov).1 0 < 5000; omega) (by rw [v7]; have := hIo.1.1; show _ + 2 * (sH z.1 11 ov).1 0 + 1 ≤ 250; omega) ?_
    intro m8 hm8
    have hm8' : m8 ≤ m6 + 1 + 1 + 1 + 2 * 10 + 1 := by
      have := hIo.1.1
      have e0 : u7.1.1.1 0 = (sH z.1 11 ov).1 0 := by rw [v7]
      omega
    clear hm8
    refine ok_k1 h60 ?_
    refine ok_c (eV (s := (u7, u7)) gsel0 sp2 (g_ab (k := 11) v7 (by omega))) (by omega) ?_
    refine ok_j (fun k67 h67 => ?_)
    refine ok_F (by decide) ?_
    obtain ⟨u8, z1, z2, z3⟩ := e_waits (t := t) (u := u7) (j := 1) (n := n) (B := B) (by omega) (by omega) (by rw [v7]; exact hIo) (by omega) D7
    rw [v7] at z2
    refine ok_c z1 (by omega) ?_
    refine ok_F (by decide) ?_
    refine ok_c (eV (s := (u8, u8)) gsel0 sp2 (g_ab (k := 11) z2 (by omega))) (by omega) ?_
    refine ok_T (congrArg i3 (ok1 n (by omega))) ?_
    obtain ⟨u9, z4, z5⟩ := e_undoes (t := t) (u := u8) (n := n) (j := 1) hl (by omega) (by omega) z3
    refine ok_c z4 (by omega) ?_
    refine ok_F (by decide) ?_
    obtain ⟨u8', z1', -, z3'⟩ := e_waits (t := u7) (u := u7) (j := 0) (n := n) (B := B) (by omega) (by omega) (by rw [v7]; exact hIo) (by omega) Dp.rf
    have e8 : u8' = u8 := by
      rw [z1] at z1'
      exact (congrArg (fun o : gS × Int32 => o.1.1) (Option.some.inj z1')).symm
    rw [e8] at z3'
    obtain ⟨u9', z4', z5'⟩ := e_undoes (t := u7) (u := u8) (n := n) (j := 0) hl7 (by omega) (by omega) z3'
    have e9 : u9' = u9 := by
      rw [z4] at z4'
      exact (congrArg (fun o : gS × Int32 => o.1.1) (Option.some.inj z4')).symm
    rw [e9] at z5'
    have v9 : u9.1 = (sH z.1 11 ov, z.2) := by rw [z5'.z.1, v7]
    refine ok_c (eV (s := (u9, u9)) gsel0 sp20 (q20 u9 (by rw [v9]; exact h1') (fun d => by rw [v9]; exact hop d))) (by omega) ?_
    refine ok_T rfl ?_
    refine ok_k1 h67 ?_
    refine ok_F (by decide) ?_
    obtain ⟨u10, l, p1, p2, p3, -⟩ := z5.pop hl (by omega)
    have r1 : aL_call 0 16 0 0 0 (u9, u9) = some ((u10, u9), i3 l) := by
      rw [eA gsel0 sp16, p1]
      rfl
    have r2 : aL_call 5693 16 0 0 0 (u10, u9) = some ((u10, u10), i3 l) := by
      rw [eA gsel1 sp16, p1]
      rfl
    refine ok_c r1 (by omega) ?_
    refine ok_c (thr0 (by omega)) (by omega) ?_
    refine ok_T rfl ?_
    refine ok_c r2 (by omega) ?_
    refine ok_c (thr0 (by omega)) (by omega) ?_
    refine ok_T rfl ?_
    refine ok_c (eV (s := (u10, u10)) gsel0 sp8 (g_set (k := 0) (p3.z.1.trans hz.symm) (by omega))) (by omega) ?_
    refine ok_T rfl ?_
    exact ok_b1 (ok_r (by omega) ⟨rfl, u10, rfl, p3⟩)
  rcases k5 _ o1 o2 o3 with q | ⟨q, q2⟩
  · exact ok_T (by rw [i3lt (by omega) (by omega)]; exact q) H166
  · refine ok_F (by rw [i3lt (by omega) (by omega)]; omega) ?_
    refine ok_T (by rw [q]) ?_
    exact ok_F (by rw [i3lt (by omega) (by omega)]; omega) H166
