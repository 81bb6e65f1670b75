/-! what holds before and after each call -/
theorem Cx.ag {b hh : Nat} {S D : gB} {m m' : gM} (h : Cx b S D hh m) (hn : S.1 0 ≤ 10) (hf : ∀ x, b ≤ x → x < b + 308 → (x < b + 58 ∨ b + 68 ≤ x) → m' x = m x) : Cx b S D hh m' := by
  refine ⟨⟨?_, ?_, ?_, ?_, ?_, ?_⟩, fun i hi => ?_, fun i hi => ?_, fun i hi => ?_, fun c hc => ?_⟩
  · rw [hf _ (by omega) (by omega) (by omega)]; exact h.h0
  · rw [hf _ (by omega) (by omega) (by omega)]; exact h.h1
  · rw [hf _ (by omega) (by omega) (by omega)]; exact h.h2
  · rw [hf _ (by omega) (by omega) (by omega)]; exact h.h3
  · rw [hf _ (by omega) (by omega) (by omega)]; exact h.h4
  · rw [hf _ (by omega) (by omega) (by omega)]; exact h.h5
  · rw [hf _ (by omega) (by omega) (by omega)]; exact h.2.1 i hi
  · rw [hf _ (by omega) (by omega) (by omega)]; exact h.2.2.1 i hi
  · rw [hf _ (by omega) (by omega) (by omega)]; exact h.2.2.2.1 i hi
  · have g := h.c hc
    refine ⟨?_, fun i hi => ?_, ?_, fun w hw => ?_, fun k hk hj => ⟨?_, ?_⟩⟩
    · rw [hf _ (by omega) (by omega) (by omega)]; exact g.1
    · rw [hf _ (by omega) (by omega) (by omega)]; exact g.2.1 i hi
    · rw [hf _ (by omega) (by omega) (by omega)]; exact g.2.2.1
    · rw [hf _ (by omega) (by omega) (by omega)]; exact g.2.2.2.1 w hw
    · rw [hf _ (by omega) (by omega) (by omega)]; exact (g.2.2.2.2 k hk hj).1
    · rw [hf _ (by omega) (by omega) (by omega)]; exact (g.2.2.2.2 k hk hj).2
theorem Mr.ag {a : Nat} {S D : gB} {m m' : gM} (h : Mr a S D m) (hf : ∀ x, a ≤ x → x < a + 258 → m' x = m x) : Mr a S D m' :=
  ⟨fun i hi hj => by rw [hf _ (by omega) (by omega)]; exact h.1 i hi hj, fun i hi hj => by rw [hf _ (by omega) (by omega)]; exact h.2.1 i hi hj, fun c hc j hj hk => by rw [hf _ (by omega) (by omega)]; exact h.2.2.1 c hc j hj hk, fun c hc j hj hk => by rw [hf _ (by omega) (by omega)]; exact h.2.2.2 c hc j hj hk⟩
def InB (B : Nat) (S D : gB) (m : gM) : Prop := Cb 128 S D m ∧ Mr 5824 S D m ∧ Iv B S D
def InT (n : Nat) (f : Nat → Nat) (m : gM) : Prop := m (6 + 1) = i3 n ∧ m (5693 + 2) = i3 n ∧ n ≤ 120 ∧ ∀ i, i < n → m (8 + i) = i3 (f i) ∧ m (5704 + i) = i3 (f i) ∧ f i < 256
def rg (nx q j : Nat) : Nat := (nx + 14 - q + j) % 14
theorem rg_lt (nx q j : Nat) : rg nx q j < 14 := Nat.mod_lt _ (by omega)
def InM (B nx q : Nat) (F : Nat → gB × gB) (m : gM) : Prop := m (744 + 1) = i3 q ∧ m (744 + 2) = i3 nx ∧ m (5693 + 6) = i3 q ∧ nx < 14 ∧ q ≤ 14 ∧ ∀ j, j < q → Cb (761 + 308 * rg nx q j) (F j).1 (F j).2 m ∧ Mr (6340 + 258 * j) (F j).1 (F j).2 m ∧ Iv B (F j).1 (F j).2
def InS (B : Nat) (w : Nat → Nat) (G : Nat → gB × gB) (m : gM) : Prop := ∀ s, s < 2 → m (5075 + s) = i3 (w s) ∧ m (10468 + s) = i3 (w s) ∧ w s ≤ 1 ∧ (w s = 1 → Cb (5077 + 308 * s) (G s).1 (G s).2 m ∧ Mr (9952 + 258 * s) (G s).1 (G s).2 m ∧ Iv B (G s).1 (G s).2)
def Inv (T : Nat) (m : gM) : Prop := ∃ S D n f nx q F w G, InB (2400 + 60 * T) S D m ∧ InT n f m ∧ InM (2400 + 60 * T) nx q F m ∧ InS (2400 + 60 * T) w G m
/-- what no look at the book leaves changed -/
def scr (x : Nat) : Prop := (186 ≤ x ∧ x < 196) ∨ (436 ≤ x ∧ x < 744) ∨ (6082 ≤ x ∧ x < 6340) ∨ x = 5693 ∨ x = 5702 ∨ x = 5703
def Sc (m m' : gM) : Prop := ∀ x, ¬ scr x → m' x = m x
theorem Sc.rf {m : gM} : Sc m m := fun _ _ => rfl
theorem Sc.tr {m m1 m2 : gM} (h1 : Sc m m1) (h2 : Sc m1 m2) : Sc m m2 := fun x hx => (h2 x hx).trans (h1 x hx)
theorem Sc.u {m : gM} {y : Nat} {v : Int32} (hy : scr y) : Sc m (upd m y v) := fun x hx => upd_n (fun e => hx (e ▸ hy))
theorem Sc.fr {a n : Nat} {m m' : gM} (h : Fr a n m m') (hs : ∀ x, a ≤ x → x < a + n → scr x) : Sc m m' := fun x hx => h x (by
  rcases Nat.lt_or_ge x a with q | q
  · exact Or.inl q
  · rcases Nat.lt_or_ge x (a + n) with q2 | q2
    · exact absurd (hs x q q2) hx
    · exact Or.inr q2)
theorem Sc.th {m : gM} {v : Int32} : Sc m (upd m (5693 + 0) v) := Sc.u (by unfold scr; omega)
theorem Sc.fr4 {m m' : gM} (h : Fr 436 308 m m') : Sc m m' := Sc.fr h (fun x h1 h2 => by unfold scr; omega)
theorem Sc.fr6 {m m' : gM} (h : Fr 6082 258 m m') : Sc m m' := Sc.fr h (fun x h1 h2 => by unfold scr; omega)
theorem InB.sc {B : Nat} {S D : gB} {m m' : gM} (h : InB B S D m) (hs : Sc m m') : InB B S D m' :=
  ⟨Cx.ag h.1 h.2.2.1.1 (fun x h1 h2 h3 => hs x (by unfold scr; omega)), h.2.1.ag (fun x h1 h2 => hs x (by unfold scr; omega)), h.2.2⟩
theorem InT.sc {n : Nat} {f : Nat → Nat} {m m' : gM} (h : InT n f m) (hs : Sc m m') : InT n f m' := by
  obtain ⟨h1, h2, h3, h4⟩ := h
  refine ⟨by rw [hs _ (by unfold scr; omega)]; exact h1, by rw [hs _ (by unfold scr; omega)]; exact h2, h3, fun i hi => ?_⟩
  rw [hs _ (by unfold scr; omega), hs _ (by unfold scr; omega)]
  exact h4 i hi
theorem InM.sc {B nx q : Nat} {F : Nat → gB × gB} {m m' : gM} (h : InM B nx q F m) (hs : Sc m m') : InM B nx q F m' := by
  obtain ⟨h1, h2, h3, h4, h5, h6⟩ := h
  refine ⟨by rw [hs _ (by unfold scr; omega)]; exact h1, by rw [hs _ (by unfold scr; omega)]; exact h2, by rw [hs _ (by unfold scr; omega)]; exact h3, h4, h5, fun j hj => ?_⟩
  obtain ⟨k1, k2, k3⟩ := h6 j hj
  have hr := rg_lt nx q j
  exact ⟨Cx.ag k1 k3.1.1 (fun x a1 a2 a3 => hs x (by unfold scr; omega)), k2.ag (fun x a1 a2 => hs x (by unfold scr; omega)), k3⟩
theorem InS.sc {B : Nat} {w : Nat → Nat} {G : Nat → gB × gB} {m m' : gM} (h : InS B w G m) (hs : Sc m m') : InS B w G m' := by
  intro s hs2
  obtain ⟨h1, h2, h3, h4⟩ := h s hs2
  refine ⟨by rw [hs _ (by unfold scr; omega)]; exact h1, by rw [hs _ (by unfold scr; omega)]; exact h2, h3, fun e => ?_⟩
  obtain ⟨k1, k2, k3⟩ := h4 e
  exact ⟨Cx.ag k1 k3.1.1 (fun x a1 a2 a3 => hs x (by unfold scr; omega)), k2.ag (fun x a1 a2 => hs x (by unfold scr; omega)), k3⟩
theorem InB.le {B B' : Nat} {S D : gB} {m : gM} (h : InB B S D m) (hb : B ≤ B') : InB B' S D m := ⟨h.1, h.2.1, h.2.2.le hb⟩
theorem InM.le {B B' nx q : Nat} {F : Nat → gB × gB} {m : gM} (h : InM B nx q F m) (hb : B ≤ B') : InM B' nx q F m := ⟨h.1, h.2.1, h.2.2.1, h.2.2.2.1, h.2.2.2.2.1, fun j hj => ⟨(h.2.2.2.2.2 j hj).1, (h.2.2.2.2.2 j hj).2.1, (h.2.2.2.2.2 j hj).2.2.le hb⟩⟩
theorem InS.le {B B' : Nat} {w : Nat → Nat} {G : Nat → gB × gB} {m : gM} (h : InS B w G m) (hb : B ≤ B') : InS B' w G m := fun s hs => ⟨(h s hs).1, (h s hs).2.1, (h s hs).2.2.1, fun e => ⟨((h s hs).2.2.2 e).1, ((h s hs).2.2.2 e).2.1, ((h s hs).2.2.2 e).2.2.le hb⟩⟩
theorem Inv.sc {T : Nat} {m m' : gM} (h : Inv T m) (hs : Sc m m') : Inv (T + 1) m' := by
  obtain ⟨S, D, n, f, nx, q, F, w, G, h1, h2, h3, h4⟩ := h
  exact ⟨S, D, n, f, nx, q, F, w, G, (h1.sc hs).le (by omega), h2.sc hs, (h3.sc hs).le (by omega), (h4.sc hs).le (by omega)⟩
theorem Inv.B {T : Nat} {m : gM} (h : Inv T m) : ∃ S D, InB (2400 + 60 * T) S D m := by
  obtain ⟨S, D, n, f, nx, q, F, w, G, h1, h2, h3, h4⟩ := h
  exact ⟨S, D, h1⟩
/-! a call's two answers -/
theorem ok0 {es : List Nat} {F : Option (gM × Nat × Int32)} {M : gM → Option (gM × Int32)} {m1 m2 : gM} {r : Int32} (h1 : F = some (m1, 0, r)) (h2 : M m1 = some (m2, r)) (h3 : m2 (5693 + 0) = 0) : gOk es F M m2 :=
  ⟨(m1, 0, r), 0, m2, r, h1, rfl, h2, by unfold fX6_thrown; rw [h3]; rfl, fun _ => rfl⟩
theorem okE {es : List Nat} {F : Option (gM × Nat × Int32)} {M : gM → Option (gM × Int32)} {m1 m2 : gM} {r b k : Int32} {e : Nat} (h1 : F = some (m1, e, r)) (he : e ≠ 0) (hk : gKd es e = some k) (h2 : M m1 = some (m2, b)) (h3 : m2 (5693 + 0) = k) : gOk es F M m2 :=
  ⟨(m1, e, r), k, m2, b, h1, hk, h2, by unfold fX6_thrown; rw [h3]; rfl, fun q => absurd q he⟩
theorem r_ok (m : gM) : fX6_refused 0 m = some (upd m (5693 + 0) 0, 0) := by
  unfold fX6_refused
  rw [gLtI, if_pos (by decide)]
  rfl
theorem r_no {k : Int32} (hk : ¬ k ≤ 0) (m : gM) : fX6_refused k m = some (upd m (5693 + 0) k, 1) := by
  unfold fX6_refused
  rw [gLtI, if_neg hk]
  rfl
/-- a demand and its refusal, one of the two told -/
theorem q_no {T : Nat} {m : gM} {es : List Nat} {F : Option (gM × Nat × Int32)} {M : gM → Option (gM × Int32)} {r k : Int32} {e : Nat} (hi : Inv T m) (h1 : F = some (m, e, r)) (he : e ≠ 0) (hk : gKd es e = some k) (h2 : M m = some (upd m (5693 + 0) k, 0)) : ∃ m3 : gM, gOk es F M m3 ∧ Inv (T + 1) m3 :=
  ⟨_, okE h1 he hk h2 upd_s, hi.sc Sc.th⟩
theorem q_ok {T : Nat} {m : gM} {es : List Nat} {F : Option (gM × Nat × Int32)} {M : gM → Option (gM × Int32)} {r : Int32} {m1 m2 : gM} (hi : Inv T m) (h1 : F = some (m1, 0, r)) (h2 : M m1 = some (m2, r)) (h3 : m2 (5693 + 0) = 0) (hs : Sc m m2) : ∃ m3 : gM, gOk es F M m3 ∧ Inv (T + 1) m3 :=
  ⟨_, ok0 h1 h2 h3, hi.sc hs⟩
