/-! memory: the program's ring and the reference's rows -/
def CM (nx q : Nat) (F : Nat → gB × gB) (m : gM) : Prop := m (744 + 1) = i3 q ∧ m (744 + 2) = i3 nx ∧ ∀ j, j < q → Cb (761 + 308 * rg nx q j) (F j).1 (F j).2 m
def RM (q : Nat) (F : Nat → gB × gB) (m : gM) : Prop := m (5693 + 6) = i3 q ∧ ∀ j, j < q → Mr (6340 + 258 * j) (F j).1 (F j).2 m
def nQ (q : Nat) : Nat := if q < 14 then q + 1 else 14
def nF (q : Nat) (F : Nat → gB × gB) (z : gB × gB) : Nat → gB × gB := fun j => if q < 14 then (if j = q then z else F j) else if j = 13 then z else F (j + 1)
theorem c_keep {B nx q : Nat} {F : Nat → gB × gB} {S D : gB} {m : gM} (h : CM nx q F m) (hx : nx < 14) (hq : q ≤ 14) (hF : ∀ j, j < q → (F j).1.1 0 ≤ 10) (hb : Cb 128 S D m) (hI : Is B S) : ∃ m', fX2_keep 128 m = some m' ∧ CM ((nx + 1) % 14) (nQ q) (nF q F (S, D)) m' ∧ Cb 128 S D m' ∧ ∀ x, (x < 744 ∨ 5073 ≤ x) → m' x = m x := by
  obtain ⟨k1, k2, k3⟩ := h
  have hn := hI.1
  obtain ⟨m1, s1, s2, s3⟩ := c_copy (b := 761 + 308 * nx) (src := 128) hb hI (by omega)
  have e2 : m1 (744 + 2) = i3 nx := by rw [s3 _ (by omega)]; exact k2
  obtain ⟨m2, hm2⟩ : ∃ m2, m2 = upd m1 (744 + 2) (i3 ((nx + 1) % 14)) := ⟨_, rfl⟩
  have e3 : m2 (744 + 1) = i3 q := by rw [hm2, upd_n (by omega), s3 _ (by omega)]; exact k1
  have e4 : min (q + 1) 14 = nQ q := by
    unfold nQ
    split <;> omega
  have f1 : Fr 744 3 m1 (upd m2 (744 + 1) (i3 (nQ q))) := fun x hx => by rw [upd_n (by omega), hm2, upd_n (by omega)]
  refine ⟨upd m2 (744 + 1) (i3 (nQ q)), ?_, ⟨?_, ?_, fun j hj => ?_⟩, ?_, fun x hx => ?_⟩
  · unfold fX2_keep
    rw [k2, gLtI, gElI hx (by omega), s1, gCvI, e2, gLtI, n1, i3a, n14, i3r (by omega) (by omega), gLtI, ← hm2]
    rw [← n1, n1, e3, gLtI, i3a, jminI (by omega) (by omega), gLtI, e4, gLtI]
  · rw [upd_s]
  · rw [upd_n (by omega), hm2, upd_s]
  · have hr := rg_lt ((nx + 1) % 14) (nQ q) j
    generalize upd m2 (744 + 1) (i3 (nQ q)) = m3 at f1 ⊢
    unfold nF
    unfold nQ at hj hr ⊢
    by_cases c1 : q < 14
    · rw [if_pos c1] at hj hr ⊢
      rw [if_pos c1]
      by_cases c2 : j = q
      · rw [if_pos c2]
        have e : rg ((nx + 1) % 14) (q + 1) j = nx := by unfold rg; omega
        rw [e]
        exact Cx.fr s2 hn f1 (by omega)
      · rw [if_neg c2]
        have e : rg ((nx + 1) % 14) (q + 1) j = rg nx q j := by unfold rg; omega
        have e5 : rg nx q j ≠ nx := by unfold rg; omega
        have h14 := rg_lt nx q j
        rw [e]
        exact Cx.fr (Cx.fr (k3 j (by omega)) (hF j (by omega)) s3 (by omega)) (hF j (by omega)) f1 (by omega)
    · rw [if_neg c1] at hj hr ⊢
      rw [if_neg c1]
      have hq14 : q = 14 := by omega
      subst hq14
      by_cases c2 : j = 13
      · rw [if_pos c2]
        have e : rg ((nx + 1) % 14) 14 j = nx := by unfold rg; omega
        rw [e]
        exact Cx.fr s2 hn f1 (by omega)
      · rw [if_neg c2]
        have e : rg ((nx + 1) % 14) 14 j = rg nx 14 (j + 1) := by unfold rg; omega
        have e5 : rg nx 14 (j + 1) ≠ nx := by unfold rg; omega
        have h14 := rg_lt nx 14 (j + 1)
        rw [e]
        exact Cx.fr (Cx.fr (k3 (j + 1) (by omega)) (hF _ (by omega)) s3 (by omega)) (hF _ (by omega)) f1 (by omega)
  · exact Cx.fr (Cx.fr hb hn s3 (by omega)) hn f1 (by omega)
  · rw [f1 x (by omega), s3 x (by omega)]
theorem m_rem {q : Nat} {F : Nat → gB × gB} {S D : gB} {m : gM} (h : RM q F m) (hq : q ≤ 14) (hb : Mr 5824 S D m) : ∃ m', fX6_remember m = some m' ∧ RM (nQ q) (nF q F (S, D)) m' ∧ Mr 5824 S D m' ∧ ∀ x, x ≠ 5699 → (x < 6340 ∨ 9952 ≤ x) → m' x = m x := by
  obtain ⟨k1, k2⟩ := h
  unfold fX6_remember
  rw [k1, gLtI, n14, iEq (by omega) (by omega)]
  by_cases c1 : q = 14
  · subst c1
    rw [if_pos rfl]
    have L : ∀ (f k : Nat) (M : gM), k ≤ 3354 → 3354 - k < f → (∀ x, (x < 6340 ∨ 6340 + k ≤ x) → M x = m x) → (∀ i, i < k → M (6340 + i) = m (6340 + (i + 258))) → ∃ m', fX6_remember_L11 f (i3 k) M = some m' ∧ RM 14 (nF 14 F (S, D)) m' ∧ Mr 5824 S D m' ∧ ∀ x, x ≠ 5699 → (x < 6340 ∨ 9952 ≤ x) → m' x = m x := by
      intro f
      induction f with
      | zero => intro k M h1 h2; omega
      | succ f ih =>
        intro k M h1 h2 h3 h4
        unfold fX6_remember_L11
        rw [n3354, iLe (by omega) (by omega)]
        by_cases r : 3354 ≤ k
        · have e : k = 3354 := by omega
          subst e
          have e1 : M (5693 + 6) = i3 14 := by rw [h3 _ (by omega)]; exact k1
          have f1 : ∀ v, Fr (5693 + 6) 1 M (upd M (5693 + 6) v) := fun v => Fr.up (by omega) (by omega)
          have g1 : Mr 5824 S D (upd M (5693 + 6) (i3 13)) := (hb.ag (fun x a1 a2 => h3 x (by omega))).fr (f1 _) (by omega)
          obtain ⟨m2, s1, s2, s3⟩ := m_copy (a := 5824) (na := 258) (p := 0) (b := 6340) (nb := 3612) (q := 258 * 13) g1 (by omega) (by omega) (by omega) (by omega) (by omega)
          have e2 : m2 (5693 + 6) = i3 13 := by rw [s3 _ (by omega), upd_s]
          rw [if_pos r, e1, gLtI, n1, i3s (by omega), gLtI, upd_s, gLtI, n0, n258, i3m, s1, gCvI, e2, gLtI, i3a, gLtI]
          refine ⟨_, rfl, ⟨upd_s, fun j hj => ?_⟩, ?_, fun x x1 x2 => ?_⟩
          · unfold nF
            rw [if_neg (by omega)]
            by_cases c2 : j = 13
            · rw [if_pos c2, c2]
              exact s2.fr (Fr.up (a := 5693 + 6) (n := 1) (by omega) (by omega)) (by omega)
            · rw [if_neg c2]
              have g2 := k2 (j + 1) (by omega)
              have v : ∀ x, x < 258 → upd m2 (5693 + 6) (i3 (13 + 1)) (6340 + 258 * j + x) = m (6340 + 258 * (j + 1) + x) := by
                intro x hx
                rw [upd_n (by omega), s3 _ (by omega), upd_n (by omega), show 6340 + 258 * j + x = 6340 + (258 * j + x) from by omega, h4 _ (by omega), show 6340 + (258 * j + x + 258) = 6340 + 258 * (j + 1) + x from by omega]
              refine ⟨fun i hi hj => ?_, fun i hi hj => ?_, fun c hc i hj hk => ?_, fun c hc i hj hk => ?_⟩
              · rw [v i (by omega)]; exact g2.1 i hi hj
              · rw [v i (by omega)]; exact g2.2.1 i hi hj
              · rw [v _ (by omega)]; exact g2.2.2.1 c hc i hj hk
              · rw [v _ (by omega)]; exact g2.2.2.2 c hc i hj hk
          · exact (g1.fr s3 (by omega)).fr (Fr.up (a := 5693 + 6) (n := 1) (by omega) (by omega)) (by omega)
          · rw [upd_n (by omega), s3 _ (by omega), upd_n (by omega), h3 _ (by omega)]
        · rw [if_neg r, n258, i3a, gRdI (by omega) (by omega), gWrI (by omega) (by omega), gLtI, n1, i3a]
          refine ih (k + 1) _ (by omega) (by omega) (fun x hx => ?_) (fun i hi => ?_)
          · rw [upd_n (by omega)]
            exact h3 x (by omega)
          · by_cases e : i = k
            · subst e
              rw [upd_s]
              exact h3 _ (by omega)
            · rw [upd_n (by omega)]
              exact h4 i (by omega)
    have e : nQ 14 = 14 := rfl
    rw [e]
    exact L gFU 0 m (by omega) (by show _ < 5000; omega) (fun _ _ => rfl) (fun i hi => absurd hi (by omega))
  · obtain ⟨m2, s1, s2, s3⟩ := m_copy (a := 5824) (na := 258) (p := 0) (b := 6340) (nb := 3612) (q := 258 * q) hb (by omega) (by omega) (by omega) (by omega) (by omega)
    have e2 : m2 (5693 + 6) = i3 q := by rw [s3 _ (by omega)]; exact k1
    rw [if_neg c1, gLtI, n0, n258, i3m, s1, gCvI, e2, gLtI, n1, i3a, gLtI]
    have e : nQ q = q + 1 := if_pos (by omega)
    rw [e]
    refine ⟨_, rfl, ⟨upd_s, fun j hj => ?_⟩, ?_, fun x x1 x2 => ?_⟩
    · unfold nF
      rw [if_pos (by omega)]
      by_cases c2 : j = q
      · rw [if_pos c2, c2]
        exact s2.fr (Fr.up (a := 5693 + 6) (n := 1) (by omega) (by omega)) (by omega)
      · rw [if_neg c2]
        exact ((k2 j (by omega)).fr s3 (by omega)).fr (Fr.up (a := 5693 + 6) (n := 1) (by omega) (by omega)) (by omega)
    · exact (hb.fr s3 (by omega)).fr (Fr.up (a := 5693 + 6) (n := 1) (by omega) (by omega)) (by omega)
    · rw [upd_n (by omega), s3 _ (by omega)]
theorem InM.nq {B nx q : Nat} {F : Nat → gB × gB} {m : gM} (h1 : CM nx q F m) (h2 : RM q F m) (hx : nx < 14) (hq : q ≤ 14) (hv : ∀ j, j < q → Iv B (F j).1 (F j).2) : InM B nx q F m := ⟨h1.1, h1.2.1, h2.1, hx, hq, fun j hj => ⟨h1.2.2 j hj, h2.2 j hj, hv j hj⟩⟩
theorem nF_iv {B q : Nat} {F : Nat → gB × gB} {z : gB × gB} (hq : q ≤ 14) (hz : Iv B z.1 z.2) (hv : ∀ j, j < q → Iv B (F j).1 (F j).2) : ∀ j, j < nQ q → Iv B (nF q F z j).1 (nF q F z j).2 := by
  intro j hj
  unfold nF
  unfold nQ at hj
  by_cases c1 : q < 14
  · rw [if_pos c1] at hj ⊢
    by_cases c2 : j = q
    · rw [if_pos c2]; exact hz
    · rw [if_neg c2]; exact hv j (by omega)
  · rw [if_neg c1] at hj ⊢
    by_cases c2 : j = 13
    · rw [if_pos c2]; exact hz
    · rw [if_neg c2]; exact hv _ (by omega)
/-- an act that both sides do -/
theorem actOk {T : Nat} {m : gM} {S D S' D' : gB} {n nx q : Nat} {f w : Nat → Nat} {F G : Nat → gB × gB} {k p2 p3 p4 r : Int32} {es : List Nat} {M AM : gM → Option (gM × Int32)} (h1 : InB (2400 + 60 * T) S D m) (h2 : InT n f m) (h3 : InM (2400 + 60 * T) nx q F m) (h4 : InS (2400 + 60 * T) w G m) (hr : fX0_refusalOf 128 k p2 p3 p4 m = some (m, 20000)) (hp : ∀ m1, Cb 128 S D m1 → ∃ m2, fX0_perform 128 k p2 p3 p4 m1 = some (m2, r) ∧ Cb 128 S' D' m2 ∧ Fr 128 308 m1 m2) (hM : ∀ m2, Mr 5824 S D m2 → M m2 = gCv (fX6_remember (upd m2 (5693 + 0) 0)) fun m12 => gCl (AM m12) fun m16 x17 => some (m16, x17)) (hA : ∀ m4, Mr 5824 S D m4 → ∃ m5, AM m4 = some (m5, r) ∧ Mr 5824 S' D' m5 ∧ Fr 5824 258 m4 m5) (hv : Iv (2400 + 60 * (T + 1)) S' D') : ∃ m3, gOk es (gClX (fX5_act k p2 p3 p4 m) fun m1 x2 => some (m1, 0, x2)) M m3 ∧ Inv (T + 1) m3 := by
  obtain ⟨k1, k2, k3, k4, k5, k6⟩ := h3
  have hn := h1.2.2.1.1
  obtain ⟨m1, s1, s2, s3, s4⟩ := c_keep ⟨k1, k2, fun j hj => (k6 j hj).1⟩ k4 k5 (fun j hj => (k6 j hj).2.2.1.1) h1.1 h1.2.2.1
  obtain ⟨m2, t1, t2, t3⟩ := hp m1 s3
  have hm2 : ∀ x, (x < 128 ∨ (436 ≤ x ∧ x < 744) ∨ 5073 ≤ x) → m2 x = m x := fun x hx => by rw [t3 _ (by omega), s4 _ (by omega)]
  have g2 : Mr 5824 S D m2 := h1.2.1.ag (fun x a1 a2 => hm2 x (by omega))
  have g3 : Mr 5824 S D (upd m2 (5693 + 0) 0) := g2.fr (Fr.up (a := 5693 + 0) (n := 1) (by omega) (by omega)) (by omega)
  have r3 : RM q F (upd m2 (5693 + 0) 0) := ⟨by rw [upd_n (by omega), hm2 _ (by omega)]; exact k3, fun j hj => (k6 j hj).2.1.ag (fun x a1 a2 => by rw [upd_n (by omega), hm2 _ (by omega)])⟩
  obtain ⟨m4, u1, u2, u3, u4⟩ := m_rem r3 k5 g3
  obtain ⟨m5, v1, v2, v3⟩ := hA m4 u3
  have hm5 : ∀ x, x ≠ 5693 → x ≠ 5699 → (x < 5824 ∨ (6082 ≤ x ∧ x < 6340) ∨ 9952 ≤ x) → m5 x = m2 x := fun x x1 x2 x3 => by rw [v3 _ (by omega), u4 _ (by omega) (by omega), upd_n (by omega)]
  have kc : fX5_act k p2 p3 p4 m = some (m2, 0, r) := by
    unfold fX5_act
    rw [hr, gClI]
    show (gCv (fX2_keep 128 m) fun m20 => gCl (fX0_perform 128 k p2 p3 p4 m20) fun m24 x25 => some (m24, 0, x25)) = _
    rw [s1, gCvI, t1, gClI]
  have hn' := hv.1.1
  refine ⟨m5, ok0 (m1 := m2) (r := r) ?_ ?_ ?_, S', D', n, f, (nx + 1) % 14, nQ q, nF q F (S, D), w, G, ⟨?_, v2, hv⟩, ?_, ?_, ?_⟩
  · rw [kc]
    rfl
  · rw [hM m2 g2, u1, gCvI, v1, gClI]
  · rw [v3 _ (by omega), u4 _ (by omega) (by omega), upd_s]
  · exact Cx.ag t2 hn' (fun x a1 a2 a3 => hm5 x (by omega) (by omega) (by omega))
  · obtain ⟨a1, a2, a3, a4⟩ := h2
    refine ⟨?_, ?_, a3, fun i hi => ?_⟩
    · rw [hm5 _ (by omega) (by omega) (by omega), hm2 _ (by omega)]; exact a1
    · rw [hm5 _ (by omega) (by omega) (by omega), hm2 _ (by omega)]; exact a2
    · rw [hm5 _ (by omega) (by omega) (by omega), hm2 _ (by omega), hm5 _ (by omega) (by omega) (by omega), hm2 _ (by omega)]; exact a4 i hi
  · have hq' : nQ q ≤ 14 := by unfold nQ; split <;> omega
    have hF' : ∀ j, j < nQ q → Iv (2400 + 60 * (T + 1)) (nF q F (S, D) j).1 (nF q F (S, D) j).2 := nF_iv k5 (h1.2.2.le (by omega)) (fun j hj => (k6 j hj).2.2.le (by omega))
    refine InM.nq ⟨?_, ?_, fun j hj => ?_⟩ ⟨?_, fun j hj => ?_⟩ (Nat.mod_lt _ (by omega)) hq' hF'
    · rw [hm5 _ (by omega) (by omega) (by omega), t3 _ (by omega)]; exact s2.1
    · rw [hm5 _ (by omega) (by omega) (by omega), t3 _ (by omega)]; exact s2.2.1
    · have hr := rg_lt ((nx + 1) % 14) (nQ q) j
      exact Cx.ag (s2.2.2 j hj) (hF' j hj).1.1 (fun x a1 a2 a3 => by rw [hm5 x (by omega) (by omega) (by omega), t3 _ (by omega)])
    · rw [v3 _ (by omega)]; exact u2.1
    · exact (u2.2 j hj).ag (fun x a1 a2 => v3 x (by omega))
  · intro s hs
    obtain ⟨a1, a2, a3, a4⟩ := h4 s hs
    refine ⟨?_, ?_, a3, fun e => ?_⟩
    · rw [hm5 _ (by omega) (by omega) (by omega), hm2 _ (by omega)]; exact a1
    · rw [hm5 _ (by omega) (by omega) (by omega), hm2 _ (by omega)]; exact a2
    · obtain ⟨b1, b2, b3⟩ := a4 e
      exact ⟨Cx.ag b1 b3.1.1 (fun x c1 c2 c3 => by rw [hm5 x (by omega) (by omega) (by omega), hm2 _ (by omega)]), b2.ag (fun x c1 c2 => by rw [hm5 x (by omega) (by omega) (by omega), hm2 _ (by omega)]), b3.le (by omega)⟩
theorem actNo {T : Nat} {m : gM} {k p2 p3 p4 kk : Int32} {es : List Nat} {M : gM → Option (gM × Int32)} {e : Nat} (hi : Inv T m) (hr : fX0_refusalOf 128 k p2 p3 p4 m = some (m, 20000 + e)) (he : e = 1 ∨ e = 2 ∨ e = 3) (hk : gKd es e = some kk) (h2 : M m = some (upd m (5693 + 0) kk, 0)) : ∃ m3, gOk es (gClX (fX5_act k p2 p3 p4 m) fun m1 x2 => some (m1, 0, x2)) M m3 ∧ Inv (T + 1) m3 := by
  have kc : fX5_act k p2 p3 p4 m = some (m, e, 0) := by
    unfold fX5_act
    rw [hr, gClI]
    rcases he with r | r | r <;> subst r <;> rfl
  refine q_no (r := 0) (e := e) hi ?_ (by omega) hk h2
  rw [kc]
  rcases he with r | r | r <;> subst r <;> rfl
