/-! one object's state: the book, the states that are remembered, the slots -/
abbrev gT : Type := (gB × gB) × (List (gB × gB) × ((Nat → Nat) × (Nat → gB × gB)))
abbrev gS : Type := gT × gT
/-- the states that are remembered, the last one first -/
def hl : Nat → (Nat → gB × gB) → List (gB × gB)
  | 0, _ => []
  | q + 1, F => F q :: hl q F
theorem hl_congr {F G : Nat → gB × gB} : ∀ {q : Nat}, (∀ j, j < q → F j = G j) → hl q F = hl q G
  | 0, _ => rfl
  | q + 1, h => by
    unfold hl
    rw [h q (by omega), hl_congr (fun j hj => h j (by omega))]
theorem hl_len {F : Nat → gB × gB} : ∀ q, (hl q F).length = q
  | 0 => rfl
  | q + 1 => by
    unfold hl
    rw [List.length_cons, hl_len q]
theorem hl_take {F : Nat → gB × gB} : ∀ q, (hl (q + 1) F).take q = hl q (fun j => F (j + 1))
  | 0 => rfl
  | q + 1 => by
    show F (q + 1) :: (hl (q + 1) F).take q = F (q + 1) :: hl q (fun j => F (j + 1))
    rw [hl_take q]
theorem hl_push {q : Nat} {F : Nat → gB × gB} {z : gB × gB} (hq : q ≤ 14) : hl (nQ q) (nF q F z) = (z :: hl q F).take 14 := by
  unfold nQ
  by_cases c : q < 14
  · rw [if_pos c, List.take_of_length_le (by rw [List.length_cons, hl_len]; omega)]
    show nF q F z q :: hl q (nF q F z) = _
    have e1 : nF q F z q = z := by unfold nF; rw [if_pos c, if_pos rfl]
    rw [e1, hl_congr (G := F) (fun j hj => by unfold nF; rw [if_pos c, if_neg (by omega)])]
  · have e : q = 14 := by omega
    subst e
    rw [if_neg c]
    show nF 14 F z 13 :: hl 13 (nF 14 F z) = z :: (hl 14 F).take 13
    rw [hl_take 13, hl_congr (G := fun j => F (j + 1)) (fun j hj => by unfold nF; rw [if_neg (by decide), if_neg (by omega)])]
    rfl
def gI1 (a : Nat) (t : gT) (m : gM) : Prop := Cb (a + 128) t.1.1 t.1.2 m ∧ Iv 90000 t.1.1 t.1.2 ∧ (∃ (nx q : Nat) (F : Nat → gB × gB), nx < 14 ∧ q ≤ 14 ∧ hl q F = t.2.1 ∧ CM (a + 744) nx q F m ∧ ∀ j, j < q → Iv 90000 (F j).1 (F j).2) ∧ ∀ s, s < 2 → m (a + 5075 + s) = i3 (t.2.2.1 s) ∧ t.2.2.1 s ≤ 1 ∧ (t.2.2.1 s = 1 → Cb (a + 5073 + 4 + 308 * s) (t.2.2.2 s).1 (t.2.2.2 s).2 m ∧ Iv 90000 (t.2.2.2 s).1 (t.2.2.2 s).2)
/-- what lies behind the book stands -/
theorem gI1.b {a : Nat} {t : gT} {m m' : gM} {z : gB × gB} (h : gI1 a t m) (hb : Cb (a + 128) z.1 z.2 m') (hv : Iv 90000 z.1 z.2) (hf : ∀ x, a + 744 ≤ x → x < a + 5693 → m' x = m x) : gI1 a (z, t.2) m' := by
  obtain ⟨h1, h2, ⟨nx, q, F, h3, h4, hh, ⟨k1, k2, k3⟩, h5⟩, h6⟩ := h
  refine ⟨hb, hv, ⟨nx, q, F, h3, h4, hh, ⟨?_, ?_, fun j hj => ?_⟩, h5⟩, fun s hs => ?_⟩
  · rw [hf _ (by omega) (by omega)]; exact k1
  · rw [hf _ (by omega) (by omega)]; exact k2
  · have hr := rg_lt nx q j
    exact Cx.ag (k3 j hj) (h5 j hj).1.1 (fun x a1 a2 a3 => hf x (by omega) (by omega))
  · obtain ⟨d1, d2, d3⟩ := h6 s hs
    refine ⟨by rw [hf _ (by omega) (by omega)]; exact d1, d2, fun e => ?_⟩
    obtain ⟨j1, j2⟩ := d3 e
    exact ⟨Cx.ag j1 j2.1.1 (fun x a1 a2 a3 => hf x (by omega) (by omega)), j2⟩
theorem gI1.ag {a : Nat} {t : gT} {m m' : gM} (h : gI1 a t m) (hf : ∀ x, a ≤ x → x < a + 5693 → m' x = m x) : gI1 a t m' :=
  gI1.b (z := t.1) h (Cx.ag h.1 h.2.1.1.1 (fun x a1 a2 a3 => hf x (by omega) (by omega))) h.2.1 (fun x a1 a2 => hf x (by omega) a2)
theorem gI1.fr {a b : Nat} {t : gT} {m m' : gM} (h : gI1 a t m) (hf : Fr b 5693 m m') (hab : a + 5693 ≤ b ∨ b + 5693 ≤ a) : gI1 a t m' := h.ag (fun x a1 a2 => hf x (by omega))
/-- a look that writes the trial's book -/
theorem gI1.tr {a : Nat} {t : gT} {m m' : gM} (h : gI1 a t m) (hf : Fr (a + 436) 308 m m') : gI1 a t m' :=
  gI1.b (z := t.1) h (Cx.ag h.1 h.2.1.1.1 (fun x a1 a2 a3 => hf x (by omega))) h.2.1 (fun x a1 a2 => hf x (by omega))
def tpush (t : gT) (z : gB × gB) : gT := (z, (t.1 :: t.2.1).take 14, t.2.2)
def tact (c : Nat) (t : gT) (z : gB × gB) (v : Int32) : gT × Int32 := if c = 20001 then (t, -9999001) else if c = 20002 then (t, -9999002) else if c = 20003 then (t, -9999003) else (tpush t z, v)
theorem x_act {a k : Nat} {t : gT} {m : gM} {p2 p3 p4 r : Int32} {z : gB × gB} (h : gI1 a t m) (hr : fX0_refusalOf (a + 128) (i3 k) p2 p3 p4 m = some (m, 20000)) (hv : Iv 90000 z.1 z.2) (hp : ∀ m1, Cb (a + 128) t.1.1 t.1.2 m1 → ∃ m2, fX0_perform (a + 128) (i3 k) p2 p3 p4 m1 = some (m2, r) ∧ Cb (a + 128) z.1 z.2 m2 ∧ Fr (a + 128) 308 m1 m2) : ∃ m', fX5_act a (i3 k) p2 p3 p4 m = some (m', 0, r) ∧ gI1 a (tpush t z) m' ∧ Fr a 5693 m m' := by
  obtain ⟨h1, h2, ⟨nx, q, F, h3, h4, hh, hc, h5⟩, h6⟩ := h
  obtain ⟨m1, s1, s2, s3, s4⟩ := c_keep (b := a + 128) hc h3 h4 (fun j hj => (h5 j hj).1.1) h1 h2.1 (by omega)
  obtain ⟨m2, t1, t2, t3⟩ := hp m1 s3
  have hm2 : ∀ x, (x < a + 128 ∨ (a + 436 ≤ x ∧ x < a + 744) ∨ a + 5073 ≤ x) → m2 x = m x := fun x hx => by rw [t3 _ (by omega), s4 _ (by omega)]
  have kc : fX5_act a (i3 k) p2 p3 p4 m = some (m2, 0, r) := by
    unfold fX5_act
    rw [hr, gClI]
    show (gCv (fX2_keep (a + 744) (a + 128) m) fun m20 => gCl (fX0_perform (a + 128) (i3 k) p2 p3 p4 m20) fun m24 x25 => some (m24, 0, x25)) = _
    rw [s1, gCvI, t1, gClI]
  have hq' : nQ q ≤ 14 := by unfold nQ; split <;> omega
  refine ⟨m2, kc, ⟨t2, hv, ⟨(nx + 1) % 14, nQ q, nF q F t.1, Nat.mod_lt _ (by omega), hq', ?_, ⟨?_, ?_, fun j hj => ?_⟩, nF_iv h4 h2 h5⟩, fun s hs => ?_⟩, fun x hx => hm2 x (by omega)⟩
  · rw [hl_push h4, hh]
    rfl
  · rw [t3 _ (by omega)]; exact s2.1
  · rw [t3 _ (by omega)]; exact s2.2.1
  · have hr := rg_lt ((nx + 1) % 14) (nQ q) j
    have hi := nF_iv (B := 90000) h4 h2 h5 j hj
    exact Cx.fr (s2.2.2 j hj) hi.1.1 t3 (by omega)
  · obtain ⟨d1, d2, d3⟩ := h6 s hs
    refine ⟨by rw [hm2 _ (by omega)]; exact d1, d2, fun e => ?_⟩
    obtain ⟨j1, j2⟩ := d3 e
    exact ⟨Cx.ag j1 j2.1.1 (fun x a1 a2 a3 => hm2 x (by omega)), j2⟩
