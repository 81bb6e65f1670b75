/-! the best round, over numbers -/
theorem bst_all (S D : gB) (p : Nat) : ∀ (ds : List Nat) (e : Nat), (e :: ds).Pairwise (· < ·) → ∃ e', bst S D p ds (some (e, crd S D p e)) = some (e', crd S D p e') ∧ e' ∈ e :: ds ∧ ∀ d, d ∈ e :: ds → crd S D p e' < crd S D p d ∨ (crd S D p e' = crd S D p d ∧ e' ≤ d)
  | [], e, _ => ⟨e, rfl, List.mem_cons_self, fun d hd => by
    rcases List.mem_cons.mp hd with q | q
    · subst q
      exact Or.inr ⟨rfl, Nat.le_refl _⟩
    · cases q⟩
  | d :: ds, e, h => by
    obtain ⟨h1, h2⟩ := List.pairwise_cons.mp h
    obtain ⟨h3, h4⟩ := List.pairwise_cons.mp h2
    have hed : e < d := h1 d List.mem_cons_self
    show ∃ e', bst S D p ds (if crd S D p e ≤ crd S D p d then some (e, crd S D p e) else some (d, crd S D p d)) = _ ∧ _
    by_cases q : crd S D p e ≤ crd S D p d
    · rw [if_pos q]
      obtain ⟨e', k1, k2, k3⟩ := bst_all S D p ds e (List.pairwise_cons.mpr ⟨fun x hx => h1 x (List.mem_cons_of_mem _ hx), h4⟩)
      refine ⟨e', k1, ?_, fun x hx => ?_⟩
      · rcases List.mem_cons.mp k2 with r | r
        · subst r
          exact List.mem_cons_self
        · exact List.mem_cons_of_mem _ (List.mem_cons_of_mem _ r)
      · rcases List.mem_cons.mp hx with r | r
        · subst r
          exact k3 _ List.mem_cons_self
        · rcases List.mem_cons.mp r with r | r
          · subst r
            have := k3 e List.mem_cons_self
            omega
          · exact k3 x (List.mem_cons_of_mem _ r)
    · rw [if_neg q]
      obtain ⟨e', k1, k2, k3⟩ := bst_all S D p ds d h2
      refine ⟨e', k1, List.mem_cons_of_mem _ k2, fun x hx => ?_⟩
      rcases List.mem_cons.mp hx with r | r
      · subst r
        have := k3 d List.mem_cons_self
        omega
      · exact k3 x r
theorem ordL_mem (d : Nat) : d ∈ ordL ↔ (123 ≤ d ∧ d < 3211 ∧ okR d = true) := by
  unfold ordL
  rw [orders, List.mem_filter, List.mem_range'_1]
  exact ⟨fun h => ⟨h.1.1, by have := h.1.2; omega, h.2⟩, fun h => ⟨⟨h.1, by have := h.2.1; omega⟩, h.2.2⟩⟩
theorem ordL_pw : ordL.Pairwise (· < ·) := by
  unfold ordL
  rw [orders]
  exact List.Pairwise.filter _ List.pairwise_lt_range'
/-- of all orders the one with the least credits, of several the least number -/
theorem bst_ok (S D : gB) (p : Nat) : ∃ e, (enc (bst S D p ordL none)).1 = i3 e ∧ 123 ≤ e ∧ e < 3211 ∧ okR e = true ∧ ∀ d, 123 ≤ d → d < 3211 → okR d = true → crd S D p e < crd S D p d ∨ (crd S D p e = crd S D p d ∧ e ≤ d) := by
  have hpw := ordL_pw
  have hm := ordL_mem
  have h0 : 123 ∈ ordL := (hm 123).mpr ⟨by omega, by omega, by decide⟩
  cases ho : ordL with
  | nil =>
    rw [ho] at h0
    cases h0
  | cons d ds =>
    rw [ho] at hpw hm
    obtain ⟨e, k1, k2, k3⟩ := bst_all S D p ds d hpw
    obtain ⟨m1, m2, m3⟩ := (hm e).mp k2
    refine ⟨e, ?_, m1, m2, m3, fun x h1 h2 h3 => k3 x ((hm x).mpr ⟨h1, h2, h3⟩)⟩
    show (enc (bst S D p ds (some (d, crd S D p d)))).1 = _
    rw [k1]
    rfl
theorem nowb : ∀ a b c d : Fin 4, (decide (a = b) || (decide (a = c) || (decide (a = d) || (decide (b = c) || (decide (b = d) || (decide (c = d) || (decide (123 ≤ 1000 * a.val + 100 * b.val + 10 * c.val + d.val) && (decide (1000 * a.val + 100 * b.val + 10 * c.val + d.val < 3211) && okR (1000 * a.val + 100 * b.val + 10 * c.val + d.val))))))))) = true := by decide +kernel
def nowO (S : gB) : Nat := 1000 * S.1 16 + 100 * S.1 17 + 10 * S.1 18 + S.1 19
theorem now_ok {B : Nat} {S : gB} (h : Is B S) : 123 ≤ nowO S ∧ nowO S < 3211 ∧ okR (nowO S) = true ∧ orD S (nowO S) = S := by
  obtain ⟨a1, a2, a3, a4, b1, b2, b3, b4, b5, b6⟩ := h.2.2.2.1
  have k := nowb ⟨_, a1⟩ ⟨_, a2⟩ ⟨_, a3⟩ ⟨_, a4⟩
  rw [decide_eq_false (fun q => b1 (Fin.mk.inj q)), decide_eq_false (fun q => b2 (Fin.mk.inj q)), decide_eq_false (fun q => b3 (Fin.mk.inj q)), decide_eq_false (fun q => b4 (Fin.mk.inj q)), decide_eq_false (fun q => b5 (Fin.mk.inj q)), decide_eq_false (fun q => b6 (Fin.mk.inj q))] at k
  simp only [Bool.false_or, Bool.and_eq_true] at k
  obtain ⟨k1, k2, k3⟩ := k
  refine ⟨of_decide_eq_true k1, of_decide_eq_true k2, k3, ?_⟩
  unfold orD orS nowO
  rw [show (1000 * S.1 16 + 100 * S.1 17 + 10 * S.1 18 + S.1 19) / 1000 = S.1 16 by omega, show (1000 * S.1 16 + 100 * S.1 17 + 10 * S.1 18 + S.1 19) / 100 % 10 = S.1 17 by omega, show (1000 * S.1 16 + 100 * S.1 17 + 10 * S.1 18 + S.1 19) / 10 % 10 = S.1 18 by omega, show (1000 * S.1 16 + 100 * S.1 17 + 10 * S.1 18 + S.1 19) % 10 = S.1 19 by omega, sH_id, sH_id, sH_id, sH_id]
/-- one exchange brings a street to its place -/
theorem sw_at {B p w : Nat} {S : gB} (h : Is B S) (hp : p < 4) (hw : w < 4) : (swS S (S.1 (16 + p)) w).1 (16 + p) = w ∧ (∀ q, q < 4 → q ≠ p → S.1 (16 + q) ≠ w → (swS S (S.1 (16 + p)) w).1 (16 + q) = S.1 (16 + q)) ∧ (∀ i, (i < 16 ∨ 20 ≤ i) → (swS S (S.1 (16 + p)) w).1 i = S.1 i) ∧ (swS S (S.1 (16 + p)) w).2 = S.2 := by
  obtain ⟨c1, c2, c3⟩ := plc_ok h (h.ord hp)
  obtain ⟨d1, d2, d3⟩ := plc_ok h hw
  have e : plc S (S.1 (16 + p)) = p := (c3 p hp rfl).symm
  have eS : ∀ i, (swS S (S.1 (16 + p)) w).1 i = (up (up S.1 (16 + p) w) (16 + plc S w) (S.1 (16 + p))) i := fun i => by
    unfold swS
    rw [e]
    rfl
  refine ⟨?_, fun q hq hqp hqw => ?_, fun i hi => ?_, rfl⟩
  · rw [eS]
    by_cases r : plc S w = p
    · rw [r, up_s, ← d2, r]
    · rw [up_n (by omega), up_s]
  · rw [eS, up_n (fun r => hqw (by rw [show 16 + q = 16 + plc S w from r]; exact d2)), up_n (by omega)]
  · rw [eS, up_n (by omega), up_n (by omega)]
theorem okR_d {e : Nat} (h : okR e = true) : (e / 1000 < 4 ∧ e / 100 % 10 < 4 ∧ e / 10 % 10 < 4 ∧ e % 10 < 4) ∧ e / 1000 ≠ e / 100 % 10 ∧ e / 1000 ≠ e / 10 % 10 ∧ e / 1000 ≠ e % 10 ∧ e / 100 % 10 ≠ e / 10 % 10 ∧ e / 100 % 10 ≠ e % 10 ∧ e / 10 % 10 ≠ e % 10 := by
  unfold okR okO at h
  simp only [Bool.and_eq_true, decide_eq_true_eq, bne_iff_ne] at h
  obtain ⟨⟨⟨⟨⟨⟨⟨⟨⟨a1, a2⟩, a3⟩, a4⟩, b1⟩, b2⟩, b3⟩, b4⟩, b5⟩, b6⟩ := h
  exact ⟨⟨a1, a2, a3, a4⟩, b1, b2, b3, b4, b5, b6⟩
/-- three exchanges bring an order -/
theorem sw3 {B e : Nat} {S D : gB} (h : Iv B S D) (he : okR e = true) : ∃ S1 S2 S3 : gB, S1 = swS S (S.1 16) (e / 1000) ∧ S2 = swS S1 (S1.1 17) (e / 100 % 10) ∧ S3 = swS S2 (S2.1 18) (e / 10 % 10) ∧ Iv B S1 D ∧ Iv B S2 D ∧ Iv B S3 D ∧ S3 = orD S e ∧ S3.1 16 = e / 1000 ∧ S3.1 17 = e / 100 % 10 ∧ S3.1 18 = e / 10 % 10 ∧ S3.1 19 = e % 10 := by
  obtain ⟨⟨a1, a2, a3, a4⟩, b1, b2, b3, b4, b5, b6⟩ := okR_d he
  obtain ⟨S1, e1⟩ : ∃ S1, S1 = swS S (S.1 16) (e / 1000) := ⟨_, rfl⟩
  obtain ⟨S2, e2⟩ : ∃ S2, S2 = swS S1 (S1.1 17) (e / 100 % 10) := ⟨_, rfl⟩
  obtain ⟨S3, e3⟩ : ∃ S3, S3 = swS S2 (S2.1 18) (e / 10 % 10) := ⟨_, rfl⟩
  have i1 : Iv B S1 D := by rw [e1]; exact h.sw (h.1.ord (p := 0) (by omega)) a1
  have i2 : Iv B S2 D := by rw [e2]; exact i1.sw (i1.1.ord (p := 1) (by omega)) a2
  have i3' : Iv B S3 D := by rw [e3]; exact i2.sw (i2.1.ord (p := 2) (by omega)) a3
  obtain ⟨p1, -, p3, p4⟩ := sw_at h.1 (p := 0) (w := e / 1000) (by omega) a1
  obtain ⟨q1, q2, q3, q4⟩ := sw_at i1.1 (p := 1) (w := e / 100 % 10) (by omega) a2
  obtain ⟨r1, r2, r3, r4⟩ := sw_at i2.1 (p := 2) (w := e / 10 % 10) (by omega) a3
  rw [show 16 + 0 = 16 from rfl, ← e1] at p1 p3 p4
  rw [show 16 + 1 = 17 from rfl, ← e2] at q1 q2 q3 q4
  rw [show 16 + 2 = 18 from rfl, ← e3] at r1 r2 r3 r4
  have s0 : S2.1 16 = e / 1000 := by
    have := q2 0 (by omega) (by omega) (by rw [show 16 + 0 = 16 from rfl, p1]; exact b1)
    exact this.trans p1
  have t0 : S3.1 16 = e / 1000 := by
    have := r2 0 (by omega) (by omega) (by rw [show 16 + 0 = 16 from rfl, s0]; exact b2)
    exact this.trans s0
  have t1 : S3.1 17 = e / 100 % 10 := by
    have := r2 1 (by omega) (by omega) (by rw [show 16 + 1 = 17 from rfl, q1]; exact b4)
    exact this.trans q1
  have ho := i3'.1.2.2.2.1
  have t3 : S3.1 19 = e % 10 := by
    rw [t0, t1, r1] at ho
    omega
  refine ⟨S1, S2, S3, e1, e2, e3, i1, i2, i3', ?_, t0, t1, r1, t3⟩
  have hf : S3.1 = (orD S e).1 := by
    funext i
    unfold orD orS
    show _ = up (up (up (up S.1 19 (e % 10)) 18 (e / 10 % 10)) 17 (e / 100 % 10)) 16 (e / 1000) i
    by_cases g0 : i = 16
    · subst g0
      rw [t0, up_s]
    rw [up_n g0]
    by_cases g1 : i = 17
    · subst g1
      rw [t1, up_s]
    rw [up_n g1]
    by_cases g2 : i = 18
    · subst g2
      rw [r1, up_s]
    rw [up_n g2]
    by_cases g3 : i = 19
    · subst g3
      rw [t3, up_s]
    rw [up_n g3, r3 i (by omega), q3 i (by omega), p3 i (by omega)]
  have hf2 : S3.2 = (orD S e).2 := by
    rw [r4, q4, p4]
    rfl
  exact Prod.ext hf hf2
