/-! copies -/
def Kp (a0 a1 : Nat) (m m' : gM) (P : Nat → Prop) : Prop := ∀ y, ((a0 ≤ y ∧ y < a0 + 24 ∧ P (y - a0)) → m' y = m (a1 + (y - a0))) ∧ (¬ (a0 ≤ y ∧ y < a0 + 24 ∧ P (y - a0)) → m' y = m y)
theorem Kp0 {a0 a1 : Nat} {m : gM} : Kp a0 a1 m m (fun _ => False) := fun y => ⟨fun h => h.2.2.elim, fun _ => rfl⟩
theorem Kp.u {a0 a1 i : Nat} {m m' : gM} {P : Nat → Prop} (h : Kp a0 a1 m m' P) (hd : a0 + 24 ≤ a1 ∨ a1 + 24 ≤ a0) (hi : i < 24) : Kp a0 a1 m (upd m' (a0 + i) (m' (a1 + i))) (fun j => P j ∨ j = i) := by
  have e : m' (a1 + i) = m (a1 + i) := (h _).2 (by omega)
  rw [e]
  intro y
  by_cases q : y = a0 + i
  · subst q
    rw [upd_s]
    refine ⟨fun _ => by rw [show a0 + i - a0 = i from by omega], fun h2 => (h2 ⟨by omega, by omega, Or.inr (by omega)⟩).elim⟩
  · rw [upd_n q]
    refine ⟨fun h2 => ?_, fun h2 => ?_⟩
    · rcases h2.2.2 with r | r
      · exact (h y).1 ⟨h2.1, h2.2.1, r⟩
      · omega
    · exact (h y).2 (fun h3 => h2 ⟨h3.1, h3.2.1, Or.inl h3.2.2⟩)
theorem Kp.c {a0 a1 p n : Nat} {m m' : gM} {P : Nat → Prop} (h : Kp a0 a1 m m' P) (hd : a0 + 24 ≤ a1 ∨ a1 + 24 ≤ a0) (hi : p + n ≤ 24) : Kp a0 a1 m (gCpM m' (a1 + p) (a0 + p) 0 0 n) (fun j => P j ∨ (p ≤ j ∧ j < p + n)) := by
  intro y
  unfold gCpM
  by_cases q : a0 + p + 0 ≤ y ∧ y < a0 + p + 0 + n
  · rw [if_pos q, (h _).2 (by omega)]
    refine ⟨fun _ => congrArg m (by omega), fun h2 => (h2 ⟨by omega, by omega, Or.inr (by omega)⟩).elim⟩
  · rw [if_neg q]
    refine ⟨fun h2 => ?_, fun h2 => ?_⟩
    · rcases h2.2.2 with r | r
      · exact (h y).1 ⟨h2.1, h2.2.1, r⟩
      · omega
    · exact (h y).2 (fun h3 => h2 ⟨h3.1, h3.2.1, Or.inl h3.2.2⟩)
theorem gCp7 {β : Type} {σ : gM} {a b : Nat} {k : gM → Option β} : gCp σ a 7 b 7 0 0 7 k = k (gCpM σ a b 0 0 7) := if_neg (by decide)
theorem gCp3 {β : Type} {σ : gM} {a b : Nat} {k : gM → Option β} : gCp σ a 3 b 3 0 0 3 k = k (gCpM σ a b 0 0 3) := if_neg (by decide)
theorem gCp4 {β : Type} {σ : gM} {a b : Nat} {k : gM → Option β} : gCp σ a 4 b 4 0 0 4 k = k (gCpM σ a b 0 0 4) := if_neg (by decide)
theorem gCp5 {β : Type} {σ : gM} {a b : Nat} {k : gM → Option β} : gCp σ a 5 b 5 0 0 5 k = k (gCpM σ a b 0 0 5) := if_neg (by decide)
theorem gCp28 {β : Type} {σ : gM} {a b : Nat} {k : gM → Option β} : gCp σ a 28 b 28 0 0 28 k = k (gCpM σ a b 0 0 28) := if_neg (by decide)
theorem c_cpc {a0 a1 : Nat} {s d : Nat → Nat} {m : gM} (h : Cc a1 s d m) (hd : a0 + 24 ≤ a1 ∨ a1 + 24 ≤ a0) : ∃ m', fX1_copyFrom a0 a1 m = some m' ∧ Cc a0 s d m' ∧ Fr a0 24 m m' := by
  have k0 := ((((((((Kp0 (a0 := a0) (a1 := a1) (m := m)).u hd (i := 0) (by omega)).u hd (i := 1) (by omega)).u hd (i := 2) (by omega)).u hd (i := 3) (by omega)).u hd (i := 4) (by omega)).u hd (i := 5) (by omega)).u hd (i := 6) (by omega)).u hd (i := 7) (by omega)
  have k1 := ((k0.c hd (p := 11) (n := 7) (by omega)).c hd (p := 18) (n := 3) (by omega)).c hd (p := 21) (n := 3) (by omega)
  unfold fX1_copyFrom
  rw [gLtI, gLtI, gLtI, gLtI, gLtI, gLtI, gLtI, gLtI, gLtI, gLtI, gLtI, gLtI, gLtI, gLtI, gLtI, gLtI, gCp7, gCp3, gCp3]
  refine ⟨_, rfl, ?_, fun x hx => (k1 x).2 (by omega)⟩
  generalize gCpM (gCpM (gCpM _ _ _ _ _ _) _ _ _ _ _) _ _ _ _ _ = m' at k1
  have v : ∀ j, (j < 8 ∨ (11 ≤ j ∧ j < 24)) → m' (a0 + j) = m (a1 + j) := by
    intro j hj
    have e := (k1 (a0 + j)).1
    rw [show a0 + j - a0 = j from by omega] at e
    exact e ⟨by omega, by omega, by omega⟩
  refine ⟨?_, fun i hi => ?_, ?_, fun w hw => ?_, fun k hk hj => ⟨?_, ?_⟩⟩
  · rw [v 0 (by omega)]; exact h.1
  · rw [v _ (by omega)]; exact h.2.1 i hi
  · rw [v 7 (by omega)]; exact h.2.2.1
  · rw [Nat.add_assoc, v _ (by omega), ← Nat.add_assoc]; exact h.2.2.2.1 w hw
  · rw [Nat.add_assoc, v _ (by omega), ← Nat.add_assoc]; exact (h.2.2.2.2 k hk hj).1
  · rw [Nat.add_assoc, v _ (by omega), ← Nat.add_assoc]; exact (h.2.2.2.2 k hk hj).2
theorem gCpMi {σ : gM} {a b n i : Nat} (hi : i < n) : gCpM σ a b 0 0 n (b + i) = σ (a + i) := by
  unfold gCpM
  rw [if_pos (by omega)]
  exact congrArg σ (by omega)
theorem gCpMo {σ : gM} {a b n y : Nat} (hi : y < b ∨ b + n ≤ y) : gCpM σ a b 0 0 n y = σ y := by
  unfold gCpM
  rw [if_neg (by omega)]
theorem c_copy {b B src : Nat} {S D : gB} {m : gM} (h : Cb src S D m) (hI : Is B S) (hd : b + 308 ≤ src ∨ src + 308 ≤ b) : ∃ m', fX0_copyFrom b src m = some m' ∧ Cb b S D m' ∧ Fr b 308 m m' := by
  have hn := hI.1
  have L2 : ∀ (r : Int32 → gM → Option gM) (f k : Nat) (M : gM), k ≤ 28 → 28 - k < f → Fr b 308 m M → (∀ i, i < 6 → M (b + i) = m (src + i)) → (∀ c, c < S.1 0 → Cc (b + 11 + 57 + 24 * c) (S.2 c) (D.2 c) M) → (∀ i, i < k → M (b + 21 + i) = i3 (S.1 (20 + i))) → ∃ m', fX0_copyFrom_L81 b src r f (i3 k) M = some m' ∧ Cb b S D m' ∧ Fr b 308 m m' := by
    intro r f
    induction f with
    | zero => intro k M h1 h2; omega
    | succ f ih =>
      intro k M h1 h2 hf hh hcs hsh
      have hs : Cb src S D M := Cx.fr h hn hf (by omega)
      unfold fX0_copyFrom_L81
      rw [n28, iLe (by omega) (by omega)]
      by_cases q : 28 ≤ k
      · have e : k = 28 := by omega
        subst e
        rw [if_pos q, gCp4, gCp5]
        have F1 : Fr b 308 M (gCpM (gCpM M (src + 49) (b + 49) 0 0 4) (src + 53) (b + 53) 0 0 5) := fun x hx => by
          rw [gCpMo (by omega), gCpMo (by omega)]
        refine ⟨_, rfl, ⟨⟨?_, ?_, ?_, ?_, ?_, ?_⟩, fun i hi => ?_, fun i hi => ?_, fun i hi => ?_, fun c hc => ?_⟩, hf.tr F1⟩
        · rw [gCpMo (by omega), gCpMo (by omega), hh 0 (by omega)]; exact Cx.h0 h
        · rw [gCpMo (by omega), gCpMo (by omega), hh 1 (by omega)]; exact Cx.h1 h
        · rw [gCpMo (by omega), gCpMo (by omega), hh 2 (by omega)]; exact Cx.h2 h
        · rw [gCpMo (by omega), gCpMo (by omega), hh 3 (by omega)]; exact Cx.h3 h
        · rw [gCpMo (by omega), gCpMo (by omega), hh 4 (by omega)]; exact Cx.h4 h
        · rw [gCpMo (by omega), gCpMo (by omega), hh 5 (by omega)]; exact Cx.h5 h
        · rw [gCpMo (by omega), gCpMo (by omega)]; exact hsh i hi
        · rw [gCpMo (by omega), gCpMi hi]; exact hs.2.2.1 i hi
        · rw [gCpMi hi, gCpMo (by omega)]; exact hs.2.2.2.1 i hi
        · exact (hcs c hc).fr (a := b + 49) (n := 9) (fun x hx => by rw [gCpMo (by omega), gCpMo (by omega)]) (by omega)
      · have hk : k < 28 := by omega
        have h4 := hI.2.2.2.2.1 k hk
        have e5 : M (src + 21 + k) = i3 (S.1 (20 + k)) := hs.2.1 k hk
        have e6 : vp_nar .boolean (i3 (S.1 (20 + k))) = i3 (S.1 (20 + k)) := by
          rcases (show S.1 (20 + k) = 0 ∨ S.1 (20 + k) = 1 by omega) with r | r <;> rw [r] <;> rfl
        rw [if_neg q, gRdI hk (by omega), e5, e6, gWrI hk (by omega), gLtI, n1, i3a]
        refine ih (k + 1) _ (by omega) (by omega) (hf.tr (Fr.up (by omega) (by omega))) (fun i hi => by rw [upd_n (by omega)]; exact hh i hi) (fun c hc => ?_) (fun i hi => ?_)
        · exact (hcs c hc).fr (a := b + 21) (n := 28) (Fr.up (by omega) (by omega)) (by omega)
        · by_cases e2 : i = k
          · subst e2
            rw [upd_s]
          · rw [upd_n (by omega)]
            exact hsh i (by omega)
  have L : ∀ (f k : Nat) (M : gM), k ≤ S.1 0 → S.1 0 - k < f → Fr b 308 m M → (∀ i, i < 6 → M (b + i) = m (src + i)) → (∀ c, c < k → Cc (b + 11 + 57 + 24 * c) (S.2 c) (D.2 c) M) → ∃ m', fX0_copyFrom_L50 b src f (i3 k) M = some m' ∧ Cb b S D m' ∧ Fr b 308 m m' := by
    intro f
    induction f with
    | zero => intro k M h1 h2; omega
    | succ f ih =>
      intro k M h1 h2 hf hh hcs
      have hs : Cb src S D M := Cx.fr h hn hf (by omega)
      unfold fX0_copyFrom_L50
      have e0 : M (b + 0) = i3 (S.1 0) := by rw [hh 0 (by omega)]; exact Cx.h0 h
      rw [e0, gLtI, iLe (by omega) (by omega)]
      by_cases q : S.1 0 ≤ k
      · have e : k = S.1 0 := by omega
        subst e
        rw [if_pos q]
        rw [n0]
        exact L2 (fX0_copyFrom_L50 b src f) gFU 0 M (by omega) (by show _ < 5000; omega) hf hh hcs (fun i hi => absurd hi (by omega))
      · obtain ⟨m2, s1, s2, s3⟩ := c_cpc (a0 := b + 11 + 57 + 24 * k) (Cx.c hs (c := k) (by omega)) (by omega)
        rw [if_neg q, gEl10 (by omega), gEl10 (by omega), s1, gCvI, gLtI, n1, i3a]
        refine ih (k + 1) m2 (by omega) (by omega) (hf.tr (s3.sub (by omega) (by omega))) (fun i hi => by rw [s3 _ (by omega)]; exact hh i hi) (fun c hc => ?_)
        by_cases e : c = k
        · subst e
          exact s2
        · exact (hcs c (by omega)).fr s3 (by omega)
  obtain ⟨M, hM⟩ : ∃ M, M = upd (upd (upd (upd (upd (upd m (b + 0) (i3 (S.1 0))) (b + 1) (i3 (S.1 1))) (b + 2) (i3 (D.1 2))) (b + 3) (i3 (D.1 5))) (b + 4) (i3 (D.1 7))) (b + 5) (i3 (D.1 8)) := ⟨_, rfl⟩
  have hf : Fr b 308 m M := fun x hx => by
    rw [hM, upd_n (by omega), upd_n (by omega), upd_n (by omega), upd_n (by omega), upd_n (by omega), upd_n (by omega)]
  have hh : ∀ i, i < 6 → M (b + i) = m (src + i) := by
    intro i hi
    rcases (show i = 0 ∨ i = 1 ∨ i = 2 ∨ i = 3 ∨ i = 4 ∨ i = 5 by omega) with r | r | r | r | r | r <;> subst r
    · rw [hM, upd_n (by omega), upd_n (by omega), upd_n (by omega), upd_n (by omega), upd_n (by omega), upd_s, Cx.h0 h]
    · rw [hM, upd_n (by omega), upd_n (by omega), upd_n (by omega), upd_n (by omega), upd_s, Cx.h1 h]
    · rw [hM, upd_n (by omega), upd_n (by omega), upd_n (by omega), upd_s, Cx.h2 h]
    · rw [hM, upd_n (by omega), upd_n (by omega), upd_s, Cx.h3 h]
    · rw [hM, upd_n (by omega), upd_s, Cx.h4 h]
    · rw [hM, upd_s, Cx.h5 h]
  have r1 : ∀ (v : Int32), upd m (b + 0) v (src + 1) = i3 (S.1 1) := fun v => by rw [upd_n (by omega)]; exact Cx.h1 h
  have r2 : ∀ (v w : Int32), upd (upd m (b + 0) v) (b + 1) w (src + 2) = i3 (D.1 2) := fun v w => by rw [upd_n (by omega), upd_n (by omega)]; exact Cx.h2 h
  have r3 : ∀ (v w x : Int32), upd (upd (upd m (b + 0) v) (b + 1) w) (b + 2) x (src + 3) = i3 (D.1 5) := fun v w x => by rw [upd_n (by omega), upd_n (by omega), upd_n (by omega)]; exact Cx.h3 h
  have r4 : ∀ (v w x y : Int32), upd (upd (upd (upd m (b + 0) v) (b + 1) w) (b + 2) x) (b + 3) y (src + 4) = i3 (D.1 7) := fun v w x y => by rw [upd_n (by omega), upd_n (by omega), upd_n (by omega), upd_n (by omega)]; exact Cx.h4 h
  have r5 : ∀ (v w x y z : Int32), upd (upd (upd (upd (upd m (b + 0) v) (b + 1) w) (b + 2) x) (b + 3) y) (b + 4) z (src + 5) = i3 (D.1 8) := fun v w x y z => by rw [upd_n (by omega), upd_n (by omega), upd_n (by omega), upd_n (by omega), upd_n (by omega)]; exact Cx.h5 h
  unfold fX0_copyFrom
  rw [Cx.h0 h, gLtI, gLtI, r1, gLtI, gLtI, r2, gLtI, gLtI, r3, gLtI, gLtI, r4, gLtI, gLtI, r5, gLtI, gLtI, ← hM]
  exact L gFU 0 M (by omega) (by show _ < 5000; omega) hf hh (fun c hc => absurd hc (by omega))