/-! taking back, slots, what would be -/
theorem InT.ag {n : Nat} {f : Nat → Nat} {m m' : gM} (h : InT n f m) (hs : ∀ x, (x = 7 ∨ x = 5695 ∨ (8 ≤ x ∧ x < 128) ∨ (5704 ≤ x ∧ x < 5824)) → m' x = m x) : InT n f m' := by
  obtain ⟨h1, h2, h3, h4⟩ := h
  refine ⟨by rw [hs _ (by omega)]; exact h1, by rw [hs _ (by omega)]; exact h2, h3, fun i hi => ?_⟩
  rw [hs _ (by omega), hs _ (by omega)]
  exact h4 i hi
theorem InM.ag {B nx q : Nat} {F : Nat → gB × gB} {m m' : gM} (h : InM B nx q F m) (hs : ∀ x, ((744 ≤ x ∧ x < 5073) ∨ x = 5699 ∨ (6340 ≤ x ∧ x < 9952)) → m' x = m x) : InM B nx q F m' := by
  obtain ⟨h1, h2, h3, h4, h5, h6⟩ := h
  refine ⟨by rw [hs _ (by omega)]; exact h1, by rw [hs _ (by omega)]; exact h2, by rw [hs _ (by omega)]; exact h3, h4, h5, fun j hj => ?_⟩
  obtain ⟨k1, k2, k3⟩ := h6 j hj
  have hr := rg_lt nx q j
  exact ⟨Cx.ag k1 k3.1.1 (fun x a1 a2 a3 => hs x (by omega)), k2.ag (fun x a1 a2 => hs x (by omega)), k3⟩
theorem InS.ag {B : Nat} {w : Nat → Nat} {G : Nat → gB × gB} {m m' : gM} (h : InS B w G m) (hs : ∀ x, ((5075 ≤ x ∧ x < 5693) ∨ (9952 ≤ x ∧ x < 10470)) → m' x = m x) : InS B w G m' := by
  intro s hs2
  obtain ⟨h1, h2, h3, h4⟩ := h s hs2
  refine ⟨by rw [hs _ (by omega)]; exact h1, by rw [hs _ (by omega)]; exact h2, h3, fun e => ?_⟩
  obtain ⟨k1, k2, k3⟩ := h4 e
  exact ⟨Cx.ag k1 k3.1.1 (fun x a1 a2 a3 => hs x (by omega)), k2.ag (fun x a1 a2 => hs x (by omega)), k3⟩
theorem InB.ag {B : Nat} {S D : gB} {m m' : gM} (h : InB B S D m) (hs : ∀ x, ((128 ≤ x ∧ x < 186) ∨ (196 ≤ x ∧ x < 436) ∨ (5824 ≤ x ∧ x < 6082)) → m' x = m x) : InB B S D m' :=
  ⟨Cx.ag h.1 h.2.2.1.1 (fun x h1 h2 h3 => hs x (by omega)), h.2.1.ag (fun x h1 h2 => hs x (by omega)), h.2.2⟩
theorem g20 : gP20 Inv := by
  intro T m hT hi
  have hi0 := hi
  obtain ⟨S, D, n, f, nx, q, F, w, G, h1, h2, h3, h4⟩ := hi
  obtain ⟨k1, k2, k3, k4, k5, k6⟩ := h3
  by_cases hq : q = 0
  · subst hq
    refine q_no (r := 0) (k := 1) (e := 3) hi0 ?_ (by omega) rfl ?_
    · unfold fX5_undo
      rw [k1, gLtI, if_pos (by decide), gLtI]
      rfl
    · unfold fX6_undo
      rw [k3, gLtI, if_pos (by decide), gLtI, r_no (by decide), gClI, if_neg (by decide)]
  · obtain ⟨S', D', hFz⟩ : ∃ S' D', F (q - 1) = (S', D') := ⟨_, _, rfl⟩
    obtain ⟨c1, c2, c3⟩ := k6 (q - 1) (by omega)
    have eR : rg nx q (q - 1) = (nx + 13) % 14 := by unfold rg; omega
    rw [eR, hFz] at c1
    rw [hFz] at c2 c3
    have hr := Nat.mod_lt (nx + 13) (show 0 < 14 by omega)
    have hn' := c3.1.1
    obtain ⟨m1, hm1⟩ : ∃ m1, m1 = upd m (744 + 2) (i3 ((nx + 13) % 14)) := ⟨_, rfl⟩
    have c1' : Cb (761 + 308 * ((nx + 13) % 14)) S' D' m1 := by
      rw [hm1]
      exact Cx.fr c1 hn' (Fr.up (a := 744 + 2) (n := 1) (by omega) (by omega)) (by omega)
    obtain ⟨m2, s1, s2, s3⟩ := c_copy (b := 128) c1' c3.1 (by omega)
    obtain ⟨m3, hm3⟩ : ∃ m3, m3 = upd m2 (744 + 1) (i3 (q - 1)) := ⟨_, rfl⟩
    have e1 : m1 (744 + 2) = i3 ((nx + 13) % 14) := by rw [hm1, upd_s]
    have e2 : m2 (744 + 1) = i3 q := by rw [s3 _ (by omega), hm1, upd_n (by omega)]; exact k1
    have kc : fX5_undo m = some (m3, 0, i3 (q - 1)) := by
      unfold fX5_undo fX2_takeBack
      rw [k1, gLtI, n0, iLe (by omega) (by omega), if_neg (by omega), gLtI, ← bIt, gDemT, k2, gLtI, n14, i3a, bIt, n1, i3s (by omega), i3r (by omega) (by omega), gLtI, show nx + 14 - 1 = nx + 13 from by omega, ← hm1, e1, gLtI, gElI hr (by omega), s1, gCvI, e2, gLtI, i3s (by omega), gLtI, ← hm3]
      rw [hm3, upd_s, gLtI, gClI]
    have f3 : ∀ x, (x < 128 ∨ (436 ≤ x ∧ x < 744) ∨ 747 ≤ x) → m3 x = m x := fun x hx => by
      rw [hm3, upd_n (by omega), s3 _ (by omega), hm1, upd_n (by omega)]
    obtain ⟨m4, hm4⟩ : ∃ m4, m4 = upd m3 (5693 + 0) 0 := ⟨_, rfl⟩
    obtain ⟨m5, hm5⟩ : ∃ m5, m5 = upd m4 (5693 + 6) (i3 (q - 1)) := ⟨_, rfl⟩
    have f5 : ∀ x, x ≠ 5693 → x ≠ 5699 → m5 x = m3 x := fun x x1 x2 => by rw [hm5, upd_n (by omega), hm4, upd_n (by omega)]
    have c4 : Mr (6340 + 258 * (q - 1)) S' D' m5 := c2.ag (fun x a1 a2 => by rw [f5 x (by omega) (by omega), f3 x (by omega)])
    obtain ⟨m6, t1, t2, t3⟩ := m_copy (a := 6340) (na := 3612) (p := 258 * (q - 1)) (b := 5824) (nb := 258) (q := 0) c4 (by omega) (by omega) (by omega) (by omega) (by omega)
    have e3 : m3 (5693 + 6) = i3 q := by rw [f3 _ (by omega)]; exact k3
    have e4 : m4 (5693 + 6) = i3 q := by rw [hm4, upd_n (by omega)]; exact e3
    have e5 : m6 (5693 + 6) = i3 (q - 1) := by rw [t3 _ (by omega), hm5, upd_s]
    have km : fX6_undo m3 = some (m6, i3 (q - 1)) := by
      unfold fX6_undo
      rw [e3, gLtI, n0, iEq (by omega) (by omega), if_neg hq, gLtI, ← n0, r_ok, gClI, if_pos rfl, ← hm4, e4, gLtI, n1, i3s (by omega), gLtI, ← hm5]
      rw [show m5 (5693 + 6) = i3 (q - 1) from by rw [hm5, upd_s], gLtI, n0, n258, i3m, t1, gCvI, e5, gLtI]
    have f6 : ∀ x, x ≠ 5693 → x ≠ 5699 → (x < 128 ∨ (436 ≤ x ∧ x < 744) ∨ (747 ≤ x ∧ x < 5824) ∨ 6082 ≤ x) → m6 x = m x := fun x x1 x2 x3 => by rw [t3 _ (by omega), f5 x x1 x2, f3 x (by omega)]
    have hv' : Iv (2400 + 60 * (T + 1)) S' D' := c3.le (by omega)
    refine ⟨m6, ok0 kc km ?_, S', D', n, f, (nx + 13) % 14, q - 1, F, w, G, ⟨?_, t2, hv'⟩, h2.ag (fun x hx => f6 x (by omega) (by omega) (by omega)), ⟨?_, ?_, e5, hr, by omega, fun j hj => ?_⟩, (h4.le (by omega)).ag (fun x hx => f6 x (by omega) (by omega) (by omega))⟩
    · rw [t3 _ (by omega), hm5, upd_n (by omega), hm4, upd_s]
    · refine Cx.ag s2 hn' (fun x a1 a2 a3 => ?_)
      rw [t3 _ (by omega), f5 x (by omega) (by omega), hm3, upd_n (by omega)]
    · rw [t3 _ (by omega), f5 _ (by omega) (by omega), hm3, upd_s]
    · rw [t3 _ (by omega), f5 _ (by omega) (by omega), hm3, upd_n (by omega), s3 _ (by omega), hm1, upd_s]
    · obtain ⟨d1, d2, d3⟩ := k6 j (by omega)
      have h14 := rg_lt nx q j
      have e6 : rg ((nx + 13) % 14) (q - 1) j = rg nx q j := by unfold rg; omega
      rw [e6]
      exact ⟨Cx.ag d1 d3.1.1 (fun x a1 a2 a3 => f6 x (by omega) (by omega) (by omega)), d2.ag (fun x a1 a2 => f6 x (by omega) (by omega) (by omega)), d3.le (by omega)⟩
theorem g28 : gP28 Inv := by
  intro T m a1 hT hi
  have hi0 := hi
  obtain ⟨S, D, n, f, nx, q, F, w, G, h1, h2, h3, h4⟩ := hi
  have hn := h1.2.2.1.1
  have hc : fX5_isSlot a1 m = some (m, bI (wi a1 0 1)) := by
    unfold fX5_isSlot
    rw [c_in, gClI, gRzB]
    rfl
  have hm : ∀ m, fX6_in a1.toInt64 0 1 m = some (m, bI (wi a1 0 1)) := fun m => by rw [m_inI]; rfl
  cases w1 : wi a1 0 1 with
  | false =>
    rw [w1] at hc
    refine q_no (r := 0) (k := 1) (e := 1) hi0 ?_ (by omega) rfl ?_
    · unfold fX5_save
      rw [hc, gClI, gDemF]
    · unfold fX6_save
      rw [hm, w1, gClI, m_reqF, if_neg (by decide)]
  | true =>
    rw [w1] at hc
    obtain ⟨s, e, -, b1, -⟩ := wi_n (a := 0) (b := 1) w1
    obtain ⟨m1, s1, s2, s3⟩ := c_copy (b := 5077 + 308 * s) h1.1 h1.2.2.1 (by omega)
    obtain ⟨m2, hm2⟩ : ∃ m2, m2 = upd m1 (5075 + s) (i3 1) := ⟨_, rfl⟩
    have e1 : m2 (128 + 1) = i3 (S.1 1) := by rw [hm2, upd_n (by omega), s3 _ (by omega)]; exact Cx.h1 h1.1
    have kc : fX5_save a1 m = some (m2, 0, i3 (S.1 1)) := by
      unfold fX5_save
      rw [hc, gClI, gDemT, e, gElI (by omega) (by omega), s1, gCvI, gWrI (by omega) (by omega), show vp_nar .boolean 1 = i3 1 from rfl, ← hm2, e1, gLtI]
    obtain ⟨m3, hm3⟩ : ∃ m3, m3 = upd m2 (5693 + 0) 0 := ⟨_, rfl⟩
    have f3 : ∀ x, x ≠ 5693 → (x < 5075 ∨ 5693 ≤ x) → m3 x = m x := fun x x1 x2 => by rw [hm3, upd_n (by omega), hm2, upd_n (by omega), s3 _ (by omega)]
    have g3 : Mr 5824 S D m3 := h1.2.1.ag (fun x a1 a2 => f3 x (by omega) (by omega))
    obtain ⟨m4, t1, t2, t3⟩ := m_copy (a := 5824) (na := 258) (p := 0) (b := 9952) (nb := 516) (q := 258 * s) g3 (by omega) (by omega) (by omega) (by omega) (by omega)
    obtain ⟨m5, hm5⟩ : ∃ m5, m5 = upd m4 (10468 + s) (i3 1) := ⟨_, rfl⟩
    have g5 : Mr 5824 S D m5 := (g3.fr t3 (by omega)).ag (fun x a1 a2 => by rw [hm5, upd_n (by omega)])
    have km : fX6_save a1 m2 = some (m5, i3 (S.1 1)) := by
      unfold fX6_save
      rw [hm, w1, gClI, m_reqT, if_pos rfl, ← hm3, e, n0, n258, i3m, t1, gCvI, gWrI (by omega) (by omega), show vp_nar .boolean 1 = i3 1 from rfl, ← hm5, n1, m_rS g5 (by omega) (by omega)]
    have f5 : ∀ x, x ≠ 5693 → (x < 5075 ∨ (5693 ≤ x ∧ x < 9952)) → m5 x = m x := fun x x1 x2 => by rw [hm5, upd_n (by omega), t3 _ (by omega), f3 x x1 (by omega)]
    refine ⟨m5, ok0 kc km ?_, S, D, n, f, nx, q, F, up w s 1, up G s (S, D), (h1.le (by omega)).ag (fun x hx => f5 x (by omega) (by omega)), h2.ag (fun x hx => f5 x (by omega) (by omega)), (h3.le (by omega)).ag (fun x hx => f5 x (by omega) (by omega)), fun u hu => ?_⟩
    · rw [hm5, upd_n (by omega), t3 _ (by omega), hm3, upd_s]
    · by_cases c : u = s
      · subst c
        rw [up_s, up_s]
        refine ⟨?_, ?_, by omega, fun _ => ⟨?_, ?_, h1.2.2.le (by omega)⟩⟩
        · rw [hm5, upd_n (by omega), t3 _ (by omega), hm3, upd_n (by omega), hm2, upd_s]
        · rw [hm5, upd_s]
        · exact Cx.ag s2 hn (fun x a1 a2 a3 => by rw [hm5, upd_n (by omega), t3 _ (by omega), hm3, upd_n (by omega), hm2, upd_n (by omega)])
        · exact t2.ag (fun x a1 a2 => by rw [hm5, upd_n (by omega)])
      · rw [up_n c, up_n c]
        obtain ⟨d1, d2, d3, d4⟩ := h4 u hu
        have ff : ∀ x, (x = 5075 + u ∨ x = 10468 + u ∨ (5077 + 308 * u ≤ x ∧ x < 5077 + 308 * u + 308) ∨ (9952 + 258 * u ≤ x ∧ x < 9952 + 258 * u + 258)) → m5 x = m x := fun x hx => by
          rw [hm5, upd_n (by omega), t3 _ (by omega), hm3, upd_n (by omega), hm2, upd_n (by omega), s3 _ (by omega)]
        refine ⟨by rw [ff _ (by omega)]; exact d1, by rw [ff _ (by omega)]; exact d2, d3, fun e => ?_⟩
        obtain ⟨j1, j2, j3⟩ := d4 e
        exact ⟨Cx.ag j1 j3.1.1 (fun x a1 a2 a3 => ff x (by omega)), j2.ag (fun x a1 a2 => ff x (by omega)), j3.le (by omega)⟩
theorem g29 : gP29 Inv := by
  intro T m a1 hT hi
  have hi0 := hi
  obtain ⟨S, D, n, f, nx, q, F, w, G, h1, h2, h3, h4⟩ := hi
  have hn := h1.2.2.1.1
  have hc : fX5_isSlot a1 m = some (m, bI (wi a1 0 1)) := by
    unfold fX5_isSlot
    rw [c_in, gClI, gRzB]
    rfl
  have hm : ∀ m, fX6_in a1.toInt64 0 1 m = some (m, bI (wi a1 0 1)) := fun m => by rw [m_inI]; rfl
  cases w1 : wi a1 0 1 with
  | false =>
    rw [w1] at hc
    refine q_no (r := 0) (k := 1) (e := 1) hi0 ?_ (by omega) rfl ?_
    · unfold fX5_restore
      rw [hc, gClI, gDemF]
    · unfold fX6_restore
      rw [hm, w1, gClI, gLtI]
      rfl
  | true =>
    rw [w1] at hc
    obtain ⟨s, e, -, b1, -⟩ := wi_n (a := 0) (b := 1) w1
    obtain ⟨d1, d2, d3, d4⟩ := h4 s (by omega)
    have q1 : ∀ m' : gM, m' (5075 + s) = i3 (w s) → ∀ (k : Int32 → Option (gM × Nat × Int32)), gRd m' 5075 2 (i3 s) k = k (i3 (w s)) := fun m' h k => by rw [gRdI (by omega) (by omega), h]
    have q2 : ∀ m' : gM, m' (10468 + s) = i3 (w s) → ∀ (k : Int32 → Option (gM × Int32)), gRd m' 10468 2 (i3 s) k = k (i3 (w s)) := fun m' h k => by rw [gRdI (by omega) (by omega), h]
    rcases (show w s = 0 ∨ w s = 1 by omega) with r | r
    · refine q_no (r := 0) (k := 2) (e := 3) hi0 ?_ (by omega) rfl ?_
      · unfold fX5_restore
        rw [hc, gClI, gDemT, e, q1 m d1, r]
        rfl
      · unfold fX6_restore
        rw [hm, w1, gClI, gLtI, iB0, if_pos rfl, e, q2 m d2, r, if_pos (by decide)]
        dsimp only
        rw [r_no (by decide), gClI, if_neg (by decide)]
    · obtain ⟨j1, j2, j3⟩ := d4 r
      obtain ⟨S', D', hGz⟩ : ∃ S' D', G s = (S', D') := ⟨_, _, rfl⟩
      rw [hGz] at j1 j2 j3
      have hn' := j3.1.1
      obtain ⟨m1, s1, s2, s3⟩ := c_copy (b := 128) j1 j3.1 (by omega)
      obtain ⟨m2, hm2⟩ : ∃ m2, m2 = upd (upd m1 (744 + 1) 0) (744 + 2) 0 := ⟨_, rfl⟩
      have g2 : Cb 128 S' D' m2 := Cx.ag s2 hn' (fun x a1 a2 a3 => by rw [hm2, upd_n (by omega), upd_n (by omega)])
      have kc : fX5_restore a1 m = some (m2, 0, i3 (S'.1 1)) := by
        unfold fX5_restore fX2_forgetAll
        rw [hc, gClI, gDemT, e, q1 m d1, r, show i3 1 = bI true from rfl, gDemT]
        rw [gElI (by omega) (by omega), s1, gCvI, gLtI, gLtI, ← hm2, gCvI, Cx.h1 g2, gLtI]
      have f2 : ∀ x, (x < 128 ∨ (436 ≤ x ∧ x < 744) ∨ 747 ≤ x) → m2 x = m x := fun x hx => by rw [hm2, upd_n (by omega), upd_n (by omega), s3 _ (by omega)]
      obtain ⟨m3, hm3⟩ : ∃ m3, m3 = upd m2 (5693 + 0) 0 := ⟨_, rfl⟩
      have g3 : Mr (9952 + 258 * s) S' D' m3 := j2.ag (fun x a1 a2 => by rw [hm3, upd_n (by omega), f2 x (by omega)])
      obtain ⟨m4, t1, t2, t3⟩ := m_copy (a := 9952) (na := 516) (p := 258 * s) (b := 5824) (nb := 258) (q := 0) g3 (by omega) (by omega) (by omega) (by omega) (by omega)
      obtain ⟨m5, hm5⟩ : ∃ m5, m5 = upd m4 (5693 + 6) 0 := ⟨_, rfl⟩
      have g5 : Mr 5824 S' D' m5 := t2.ag (fun x a1 a2 => by rw [hm5, upd_n (by omega)])
      have km : fX6_restore a1 m2 = some (m5, i3 (S'.1 1)) := by
        unfold fX6_restore
        rw [hm, w1, gClI, gLtI, iB0, if_pos rfl, e, q2 m2 (by rw [f2 _ (by omega)]; exact d2), r, if_neg (by decide)]
        dsimp only
        rw [r_ok, gClI, if_pos rfl, ← hm3]
        rw [n258, i3m, show (0 : Int32) = i3 0 from rfl, t1, gCvI, ← n0, gLtI, ← hm5, n1, m_rS g5 (by omega) (by omega)]
      have f5 : ∀ x, x ≠ 5693 → x ≠ 5699 → (x < 128 ∨ (436 ≤ x ∧ x < 744) ∨ (747 ≤ x ∧ x < 5824) ∨ 6082 ≤ x) → m5 x = m x := fun x x1 x2 x3 => by rw [hm5, upd_n (by omega), t3 _ (by omega), hm3, upd_n (by omega), f2 x (by omega)]
      refine ⟨m5, ok0 kc km ?_, S', D', n, f, 0, 0, F, w, G, ⟨?_, g5, j3.le (by omega)⟩, h2.ag (fun x hx => f5 x (by omega) (by omega) (by omega)), ⟨?_, ?_, ?_, by omega, by omega, fun j hj => absurd hj (by omega)⟩, (h4.le (by omega)).ag (fun x hx => f5 x (by omega) (by omega) (by omega))⟩
      · rw [hm5, upd_n (by omega), t3 _ (by omega), hm3, upd_s]
      · exact Cx.ag g2 hn' (fun x a1 a2 a3 => by rw [hm5, upd_n (by omega), t3 _ (by omega), hm3, upd_n (by omega)])
      · rw [hm5, upd_n (by omega), t3 _ (by omega), hm3, upd_n (by omega), hm2, upd_n (by omega), upd_s]
        exact n0
      · rw [hm5, upd_n (by omega), t3 _ (by omega), hm3, upd_n (by omega), hm2, upd_s]
        exact n0
      · rw [hm5, upd_s]
        exact n0
/-! what would be: the scratch books -/
theorem expC {B : Nat} {S D : gB} {m : gM} (h : InB B S D m) : ∃ m', fX0_copyFrom 436 128 m = some m' ∧ Cb 436 S D m' ∧ Sc m m' := by
  obtain ⟨m', s1, s2, s3⟩ := c_copy (b := 436) h.1 h.2.2.1 (by omega)
  exact ⟨m', s1, s2, Sc.fr4 s3⟩
theorem expM {B : Nat} {S D : gB} {m : gM} (h : InB B S D m) : ∃ m', fX6_copyState 5824 258 0 6082 258 0 m = some m' ∧ Mr 6082 S D m' ∧ Sc m m' ∧ m' (5693 + 0) = m (5693 + 0) := by
  obtain ⟨m', s1, s2, s3⟩ := m_copy (a := 5824) (na := 258) (p := 0) (b := 6082) (nb := 258) (q := 0) h.2.1 (by omega) (by omega) (by omega) (by omega) (by omega)
  exact ⟨m', s1, s2, Sc.fr6 s3, s3 _ (by omega)⟩
theorem g22 : gP22 Inv := by
  intro T m a1 a2 hT hi
  obtain ⟨S, D, hb⟩ := hi.B
  have hn := hb.2.2.1.1
  have hc2 : fX5_isWithin a2 0 200 m = some (m, bI (wi a2 0 200)) := by rw [c_in]; rfl
  have hm2 : ∀ m, fX6_in a2.toInt64 0 200 m = some (m, bI (wi a2 0 200)) := fun m => by rw [m_inI]; rfl
  cases w1 : hcu S a1 with
  | false =>
    refine q_no (r := 0) (k := 1) (e := 1) hi ?_ (by omega) rfl ?_
    · unfold fX5_creditIn
      rw [c_has hb.1 hb.2.2.1, w1, gClI, gDemF]
    · unfold fX6_creditIn
      rw [m_has hb.2.1 hb.2.2.1, w1, gClI, gLtI]
      rfl
  | true =>
    cases w2 : wi a2 0 200 with
    | false =>
      rw [w2] at hc2
      refine q_no (r := 0) (k := 2) (e := 2) hi ?_ (by omega) rfl ?_
      · unfold fX5_creditIn
        rw [c_has hb.1 hb.2.2.1, w1, gClI, gDemT, hc2, gClI, gDemF]
      · unfold fX6_creditIn
        rw [m_has hb.2.1 hb.2.2.1, w1, gClI, gLtI, iB0, if_pos rfl, hm2, w2, gClI]
        rfl
    | true =>
      rw [w2] at hc2
      obtain ⟨c, e1, b1⟩ := hcu_x w1
      obtain ⟨p, e2, -, b2, -⟩ := wi_n (a := 0) (b := 200) w2
      have hv := (hb.2.2.days p).1
      have eN : (daysZ p (S, D)).1.1 0 = S.1 0 := by
        have := rnd_len hv.1
        rw [daysZ_rnd, rnd_len hb.2.2.1] at this
        exact this.symm
      obtain ⟨m1, s1, s2, s3⟩ := expC hb
      obtain ⟨m2, t1, t2, t3⟩ := c_days (p := p) s2 hb.2.2 (by omega) (by omega)
      have sc2 : Sc m m2 := s3.tr (Sc.fr4 t3)
      have hb3 := (hb.sc sc2).sc (Sc.th (v := 0))
      obtain ⟨m4, u1, u2, u3, u4⟩ := expM hb3
      obtain ⟨m5, v1, v2, v3⟩ := m_days (p := p) u2 hb.2.2 (by omega) (by omega)
      refine q_ok (r := i3 ((daysZ p (S, D)).2.2 c 8)) (m1 := m2) (m2 := m5) hi ?_ ?_ ?_ (((sc2.tr Sc.th).tr u3).tr (Sc.fr6 v3))
      · unfold fX5_creditIn
        rw [c_has hb.1 hb.2.2.1, w1, gClI, gDemT, hc2, gClI, gDemT, s1, gCvI, e2, t1, gClI, e1, gEl10 (by omega), (Cx.c t2 (c := c) (by omega)).f1, gLtI]
      · unfold fX6_creditIn
        rw [m_has (hb.sc sc2).2.1 hb.2.2.1, w1, gClI, gLtI, iB0, if_pos rfl, hm2, w2, gClI, iB0, if_pos rfl]
        dsimp only
        rw [r_ok, gClI, if_pos rfl, u1, gCvI, e2, v1, gClI, e1, n8, m_ofD v2 (by omega) (by omega) (by omega), gClI]
      · rw [v3 _ (by omega), u4, upd_s]
