/-! what holds of a state, all through; what is done keeps it -/
def Gz (B : Nat) (z : gB × gB) : Prop := Iv B z.1 z.2 ∧ Bal z
def Hs (B : Nat) : gB × gB → List (gB × gB) → Prop
  | _, [] => True
  | z, y :: l => Gz B y ∧ (1 ≤ z.1.1 1 → 2 ≤ y.1.1 0) ∧ Hs B y l
def Lv (B : Nat) (t : gT) : Prop := Gz B t.1 ∧ 2 ≤ t.1.1.1 0 ∧ Hs B t.1 t.2.1 ∧ t.2.1.length ≤ 14 ∧ ∀ i, t.2.2.1 i = 1 → Gz B (t.2.2.2 i) ∧ 2 ≤ (t.2.2.2 i).1.1 0
theorem Gz.le {B B' : Nat} {z : gB × gB} (h : Gz B z) (hb : B ≤ B') : Gz B' z := ⟨h.1.le hb, h.2⟩
theorem Hs.le {B B' : Nat} (hb : B ≤ B') : ∀ {l : List (gB × gB)} {z : gB × gB}, Hs B z l → Hs B' z l
  | [], _, _ => trivial
  | _ :: _, _, h => ⟨h.1.le hb, h.2.1, h.2.2.le hb⟩
theorem Hs.take {B : Nat} : ∀ {l : List (gB × gB)} {z : gB × gB} (k : Nat), Hs B z l → Hs B z (l.take k)
  | [], _, k, _ => by rw [List.take_nil]; trivial
  | _ :: _, _, 0, _ => trivial
  | _ :: _, _, k + 1, h => ⟨h.1, h.2.1, h.2.2.take k⟩
theorem Hs.pre {B : Nat} {l l' : List (gB × gB)} {z : gB × gB} (h : Hs B z l) (hp : l' <+: l) : Hs B z l' := by
  rw [List.prefix_iff_eq_take.mp hp]
  exact h.take _
theorem Lv.le {B B' : Nat} {t : gT} (h : Lv B t) (hb : B ≤ B') : Lv B' t := ⟨h.1.le hb, h.2.1, h.2.2.1.le hb, h.2.2.2.1, fun i hi => ⟨(h.2.2.2.2 i hi).1.le hb, (h.2.2.2.2 i hi).2⟩⟩
theorem Lv.dp {B : Nat} {t u : gT} (h : Lv B t) (hd : Dp t u 0) : Lv B u := by
  obtain ⟨e1, e2, e3⟩ := hd.z
  refine ⟨by rw [e1]; exact h.1, by rw [e1]; exact h.2.1, by rw [e1]; exact h.2.2.1.pre e3, Nat.le_trans e3.length_le h.2.2.2.1, fun i hi => ?_⟩
  rw [e2] at hi ⊢
  exact h.2.2.2.2 i hi
theorem Lv.push {B B' : Nat} {t : gT} {z : gB × gB} (h : Lv B t) (hb : B ≤ B') (hz : Gz B' z) (hn : 2 ≤ z.1.1 0) : Lv B' (tpush t z) := by
  have h' := h.le hb
  refine ⟨hz, hn, ?_, ?_, h'.2.2.2.2⟩
  · show Hs B' z ((t.1 :: t.2.1).take 14)
    exact Hs.take 14 (show Hs B' z (t.1 :: t.2.1) from ⟨h'.1, fun _ => h'.2.1, h'.2.2.1⟩)
  · show ((t.1 :: t.2.1).take 14).length ≤ 14
    rw [List.length_take]
    omega
theorem lv_tact {B B' c : Nat} {t : gT} {z : gB × gB} {v : Int32} (h : Lv B t) (hb : B ≤ B') (hok : c = 20000 → Gz B' z ∧ 2 ≤ z.1.1 0) (hc : 20000 ≤ c ∧ c < 20004) : Lv B' (tact c t z v).1 := by
  unfold tact
  split
  · exact h.le hb
  · split
    · exact h.le hb
    · split
      · exact h.le hb
      · obtain ⟨k1, k2⟩ := hok (by omega)
        exact h.push hb k1 k2
noncomputable def aL_actC (a1 : Nat) (p2 x1 x5 x7 : Int32) (s6 : gS × Nat) : Option (gS × Int32) := (if p2 = 0 then gCN 12 s6 1 (aL_call a1 9 (x1 - x1 / 4 * 4) ((x1 / 4) - (x1 / 4) / 10000000 * 10000000) 0 s6.1) fun s10 x11 => gRN 12 s10 x11 else (if p2 = 1 then gCN 12 s6 1 (aL_call a1 9 (x1 - x1 / 4 * 4) ((x1 / 4) - (x1 / 4) / 10000000 * 10000000) 0 s6.1) fun s14 x15 => gRN 12 s14 x15 else (if p2 = 2 then gCN 12 s6 1 (aL_call a1 10 x5 ((x1 / 16) - (x1 / 16) / 7 * 7) ((x1 / 112) - (x1 / 112) / 10 * 10) s6.1) fun s18 x19 => gRN 12 s18 x19 else (if p2 = 3 then gCN 12 s6 1 (aL_call a1 11 x5 (x7 + ((x1 / 16) - (x1 / 16) / 20 * 20)) ((x7 + ((x1 / 16) - (x1 / 16) / 20 * 20)) + ((x1 / 512) - (x1 / 512) / 9 * 9)) s6.1) fun s22 x23 => gRN 12 s22 x23 else (if p2 = 4 then gCN 12 s6 1 (aL_call a1 12 x5 ((x1 / 16) - (x1 / 16) / 3 * 3) 0 s6.1) fun s26 x27 => gRN 12 s26 x27 else (if p2 = 5 then gLt ((if ((x1 / 32) - (x1 / 32) / 3 * 3) = 0 then 1 else 0) : Int32) fun x30 => gCN 12 s6 1 (aL_closes a1 (x1 - x1 / 4 * 4) ((x1 / 4) - (x1 / 4) / 7 * 7) x30 s6.1) fun s33 x34 => gRN 12 s33 x34 else (if p2 = 6 then gCN 12 s6 1 (aL_call a1 13 (x1 - x1 / 4 * 4) ((x1 / 4) - (x1 / 4) / 4 * 4) 0 s6.1) fun s37 x38 => gRN 12 s37 x38 else (if p2 = 7 then gCN 12 s6 1 (aL_call a1 14 0 (x1 - x1 / 60 * 60) 0 s6.1) fun s41 x42 => gRN 12 s41 x42 else (if p2 = 8 then gCN 12 s6 1 (aL_call a1 14 (1 + (x1 - x1 / 4 * 4)) ((x1 / 4) - (x1 / 4) / 10 * 10) 0 s6.1) fun s45 x46 => gRN 12 s45 x46 else (if p2 = 9 then (if 2 ≤ x7 then gCN 12 s6 1 (aL_call a1 16 0 0 0 s6.1) fun s49 x50 => gRN 12 s49 x50 else gRN 12 s6 (-1)) else (if p2 = 10 then (if (x1 - x1 / 2 * 2) = 0 then gCN 12 s6 1 (aL_call a1 22 ((x1 / 2) - (x1 / 2) / 2 * 2) 0 0 s6.1) fun s56 x57 => gRN 12 s56 x57 else gCN 12 s6 1 (aL_call a1 23 ((x1 / 2) - (x1 / 2) / 2 * 2) 0 0 s6.1) fun s53 x54 => gRN 12 s53 x54) else gCN 12 s6 1 (aL_call a1 15 (1 + (x1 - x1 / 9 * 9)) 0 0 s6.1) fun s59 x60 => gRN 12 s59 x60)))))))))))
section LA
variable {B : Nat} {t : gT}
theorem lv_come (h : Lv B t) (x y : Int32) : Lv B (pCome t x y).1 := by
  refine lv_tact h (Nat.le_refl _) (fun q => ?_) (fr3_le _ _ _)
  obtain ⟨q1, q2, q3⟩ := fr3_ok q
  obtain ⟨st, rfl, b1, b2, b3⟩ := wi_n (a := 0) (b := 3) q1
  have q4 := of_decide_eq_true q3
  refine ⟨⟨h.1.1.nw q4 (by rw [nVi b3]; omega), h.1.2⟩, ?_⟩
  show 2 ≤ (up t.1.1.1 0 (t.1.1.1 0 + 1)) 0
  rw [up_s]
  have := h.2.1
  omega
theorem lv_change (h : Lv B t) (x y z : Int32) : Lv B (pChange t x y z).1 := by
  refine lv_tact h (Nat.le_refl _) (fun q => ?_) (fr3_le _ _ _)
  obtain ⟨q1, q2, q3⟩ := fr3_ok q
  rw [Bool.and_eq_true] at q1
  obtain ⟨c, rfl, c1⟩ := hcu_x q1.1
  obtain ⟨w, rfl, b1, b2, b3⟩ := wi_n (a := 0) (b := 6) q1.2
  obtain ⟨n, rfl, d1, d2, d3⟩ := wi_n (a := 0) (b := 9) q2
  have hn := h.1.1.1.1
  rw [nVi (n := c) (by omega), nVi b3, nVi d3]
  exact ⟨⟨h.1.1.wk c1 d2 (by omega), h.1.2⟩, h.2.1⟩
theorem lv_holi (h : Lv B t) (x y z : Int32) : Lv B (pHoli t x y z).1 := by
  refine lv_tact h (Nat.le_refl _) (fun q => ?_) (fr3_le _ _ _)
  obtain ⟨q1, q2, q3⟩ := fr3_ok q
  rw [Bool.and_eq_true] at q2
  obtain ⟨c, rfl, c1⟩ := hcu_x q1
  obtain ⟨f, rfl, b1, b2, b3⟩ := wi_n (a := 0) (b := 999) q2.1
  rw [i3t b3] at q2
  obtain ⟨l, rfl, d1, d2, d3⟩ := wi_n (a := f) (b := 999) q2.2
  have hn := h.1.1.1.1
  have q4 := of_decide_eq_true q3
  rw [nVi (n := c) (by omega)] at q4
  rw [nVi (n := c) (by omega), nVi b3, nVi d3]
  exact ⟨⟨h.1.1.cu (hoR_s (h.1.1.1.cust c1) q4 b2 d2), h.1.2⟩, h.2.1⟩
theorem lv_drop (h : Lv B t) (x y : Int32) : Lv B (pDrop t x y).1 := by
  refine lv_tact h (Nat.le_refl _) (fun q => ?_) (fr3_le _ _ _)
  obtain ⟨q1, q2, q3⟩ := fr3_ok q
  rw [Bool.and_eq_true] at q1
  obtain ⟨c, rfl, c1⟩ := hcu_x q1.1
  have hn := h.1.1.1.1
  have q5 := q1.2
  rw [nVi (n := c) (by omega)] at q5
  obtain ⟨k, e, b1, b2, b3⟩ := wi_x q5 (by omega)
  rw [nVi (n := c) (by omega), e, nVi (by omega)]
  exact ⟨⟨h.1.1.cu (drR_s (h.1.1.1.cust c1) (by omega)), h.1.2⟩, h.2.1⟩
theorem lv_close (h : Lv B t) (x y z : Int32) : Lv B (pClose t x y z).1 := by
  refine lv_tact h (Nat.le_refl _) (fun q => ?_) (fr3_le _ _ _)
  obtain ⟨q1, q2, q3⟩ := fr3_ok q
  rw [Bool.and_eq_true] at q1
  obtain ⟨st, rfl, a1, a2, a3⟩ := wi_n (a := 0) (b := 3) q1.1
  obtain ⟨w, rfl, b1, b2, b3⟩ := wi_n (a := 0) (b := 6) q1.2
  have hv : clsV z ≤ 1 := by unfold clsV; split <;> omega
  rw [nVi a3, nVi b3]
  refine ⟨⟨h.1.1.sh (by omega) (by omega) hv, h.1.2⟩, ?_⟩
  show 2 ≤ (up t.1.1.1 (20 + 7 * st + w) (clsV z)) 0
  rw [up_n (by omega)]
  exact h.2.1
theorem swS0 {S : gB} {s u : Nat} : (swS S s u).1 0 = S.1 0 ∧ (swS S s u).1 1 = S.1 1 ∧ (swS S s u).2 = S.2 := by
  unfold swS
  refine ⟨?_, ?_, rfl⟩
  · show up (up S.1 _ _) _ _ 0 = _
    rw [up_n (by omega), up_n (by omega)]
  · show up (up S.1 _ _) _ _ 1 = _
    rw [up_n (by omega), up_n (by omega)]
theorem lv_swap (h : Lv B t) (x y : Int32) : Lv B (pSwap t x y).1 := by
  refine lv_tact h (Nat.le_refl _) (fun q => ?_) (fr3_le _ _ _)
  obtain ⟨q1, q2, q3⟩ := fr3_ok q
  rw [Bool.and_eq_true] at q1
  obtain ⟨s, rfl, a1, a2, a3⟩ := wi_n (a := 0) (b := 3) q1.1
  obtain ⟨u, rfl, b1, b2, b3⟩ := wi_n (a := 0) (b := 3) q1.2
  rw [nVi a3, nVi b3]
  refine ⟨⟨h.1.1.sw (by omega) (by omega), h.1.2⟩, ?_⟩
  rw [swS0.1]
  exact h.2.1
theorem lv_lay (h : Lv B t) (x y : Int32) : Lv B (pSet t x y).1 := by
  refine lv_tact h (Nat.le_refl _) (fun q => ?_) (fr3_le _ _ _)
  obtain ⟨q1, q2, q3⟩ := fr3_ok q
  obtain ⟨i, v, rfl, rfl, ho⟩ := seX q2
  have hi := stOk_i ho
  have hv : v < 2147483648 := by unfold stOk at ho; omega
  rw [nVi (n := i) (by omega), nVi hv]
  refine ⟨⟨h.1.1.st ho, h.1.2⟩, ?_⟩
  show 2 ≤ (up t.1.1.1 (11 + i) v) 0
  rw [up_n (by omega)]
  exact h.2.1
theorem Gz.days {k : Nat} {z : gB × gB} (h : Gz B z) : Gz (B + k) (daysZ k z) := ⟨(h.1.days k).1, Bal.days h.1 h.2 k⟩
theorem lv_days (h : Lv B t) {k : Nat} (hk : k ≤ 60) : Lv (B + k) (pDays t (i3 k)).1 := by
  refine lv_tact h (by omega) (fun q => ?_) (fr3_le _ _ _)
  rw [nVi (by omega)]
  refine ⟨h.1.days, ?_⟩
  have e := daysN h.1.1 k
  show 2 ≤ (daysZ k (t.1.1, t.1.2)).1.1 0
  rw [e]
  exact h.2.1
theorem lv_undo (h : Lv B t) (hd : 1 ≤ t.1.1.1 1) : Lv B (pUndo t).1 := by
  unfold pUndo
  cases hl : t.2.1 with
  | nil => exact h
  | cons y l =>
    obtain ⟨h1, h2, h3, h4, h5⟩ := h
    rw [hl] at h3 h4
    rw [List.length_cons] at h4
    exact ⟨h3.1, h3.2.1 hd, h3.2.2, by show l.length ≤ 14; omega, h5⟩
theorem lv_keep (h : Lv B t) (x : Int32) : Lv B (pKeep t x).1 := by
  unfold pKeep
  split
  · obtain ⟨h1, h2, h3, h4, h5⟩ := h
    refine ⟨h1, h2, h3, h4, fun i hi => ?_⟩
    by_cases q : i = nV x
    · subst q
      dsimp only
      rw [up_s]
      exact ⟨h1, h2⟩
    · dsimp only at hi ⊢
      rw [up_n q] at hi ⊢
      exact h5 i hi
  · exact h
theorem lv_back (h : Lv B t) (x : Int32) : Lv B (pBack t x).1 := by
  unfold pBack
  split
  · split
    · rename_i q
      obtain ⟨h1, h2, h3, h4, h5⟩ := h
      exact ⟨(h5 _ q).1, (h5 _ q).2, trivial, Nat.zero_le _, h5⟩
    · exact h
  · exact h
theorem eC {a : Nat} {s : gS} {x y z : Int32} (hs : gsel a s = t) : aL_closes a x y z s = some (gput a s (pClose t x y z).1, (pClose t x y z).2) := by
  unfold aL_closes
  rw [hs]
  rfl
/-- one thing that is done: what it answers, and the state behind it -/
theorem act_ok {p : Nat} (h : Lv B t) (hB : B ≤ 80000) (hp : p < 2147483648) : ∃ q : gT × Int32, Lv (B + 9) q.1 ∧ ∀ a s, gsel a s = t → aL_act a (i3 p) s = some (gput a s q.1, q.2) := by
  have hn := h.1.1.1.1
  have hn2 := h.2.1
  have hd := h.1.1.1.2.1
  have hab : qAbout t 0 = i3 (t.1.1.1 0) := q_about (k := 0) (by omega)
  have hto : qAbout t 1 = i3 (t.1.1.1 1) := q_about (k := 1) (by omega)
  obtain ⟨y, hy⟩ : ∃ y, y = p / 16 := ⟨_, rfl⟩
  have e16 : i3 p / 16 = i3 y := by rw [n16, i3d (by omega) (by omega), hy]
  have er : i3 p - i3 p / 16 * 16 = i3 (p % 16) := i3r (b := 16) (by omega) (by omega)
  have L9 : B ≤ B + 9 := by omega
  obtain ⟨r, hr⟩ : ∃ r, r = p % 16 := ⟨_, rfl⟩
  have hst : ∀ (q : gT × Int32), Lv (B + 9) q.1 → (∀ a s, gsel a s = t → Ok (aL_act a (i3 p) s) (fun s' v' => s' = gput a s q.1 ∧ v' = q.2)) → ∃ q : gT × Int32, Lv (B + 9) q.1 ∧ ∀ a s, gsel a s = t → aL_act a (i3 p) s = some (gput a s q.1, q.2) := fun q h1 h2 => ⟨q, h1, fun a s hs => ok_eq (h2 a s hs)⟩
  have hpre : ∀ (P : gS → Int32 → Prop) (a : Nat) (s : gS), gsel a s = t → (∀ x5 : Int32, x5 = i3 y - i3 y / i3 (t.1.1.1 0) * i3 (t.1.1.1 0) → Ok (aL_actC a (i3 r) (i3 y) x5 (i3 (t.1.1.1 1)) (s, 2)) P) → Ok (aL_act a (i3 p) s) P := fun P a s hs hk => by
    unfold aL_act aL_actB
    rw [er, e16, ← hr]
    refine ok_l ?_
    refine ok_c (eQ hs (sp2.trans (by rw [hab]))) (by omega) ?_
    refine ok_d (fun q => ?_) ?_
    · rw [n0, i3e (by omega) (by omega)] at q
      omega
    refine ok_j (fun x5 h5 => ?_)
    refine ok_c (eQ hs (sp2.trans (by rw [hto]))) (by omega) ?_
    exact hk x5 h5
  obtain ⟨x5, h5⟩ : ∃ x5, x5 = i3 y - i3 y / i3 (t.1.1.1 0) * i3 (t.1.1.1 0) := ⟨_, rfl⟩
  have hpre2 : ∀ (P : gS → Int32 → Prop) (a : Nat) (s : gS), gsel a s = t → Ok (aL_actC a (i3 r) (i3 y) x5 (i3 (t.1.1.1 1)) (s, 2)) P → Ok (aL_act a (i3 p) s) P := fun P a s hs hk => hpre P a s hs (fun x6 h6 => by rw [h6, ← h5]; exact hk)
  have hr16 : r < 16 := by omega
  clear hpre e16 er hr
  rcases (show r = 0 ∨ r = 1 ∨ r = 2 ∨ r = 3 ∨ r = 4 ∨ r = 5 ∨ r = 6 ∨ r = 7 ∨ r = 8 ∨ r = 9 ∨ r = 10 ∨ 11 ≤ r by omega) with e | e | e | e | e | e | e | e | e | e | e | e
  · subst e
    refine hst (pCome t (i3 y - i3 y / 4 * 4) ((i3 y / 4) - (i3 y / 4) / 10000000 * 10000000)) ((lv_come h _ _).le L9) (fun a s hs => hpre2 _ a s hs ?_)
    unfold aL_actC
    refine ok_T rfl ?_
    refine ok_c (eA hs sp9) (by omega) ?_
    exact ok_r (by omega) ⟨rfl, rfl⟩
  · subst e
    refine hst (pCome t (i3 y - i3 y / 4 * 4) ((i3 y / 4) - (i3 y / 4) / 10000000 * 10000000)) ((lv_come h _ _).le L9) (fun a s hs => hpre2 _ a s hs ?_)
    unfold aL_actC
    refine ok_F (by decide) ?_
    refine ok_T rfl ?_
    refine ok_c (eA hs sp9) (by omega) ?_
    exact ok_r (by omega) ⟨rfl, rfl⟩
  · subst e
    refine hst (pChange t x5 ((i3 y / 16) - (i3 y / 16) / 7 * 7) ((i3 y / 112) - (i3 y / 112) / 10 * 10)) ((lv_change h _ _ _).le L9) (fun a s hs => hpre2 _ a s hs ?_)
    unfold aL_actC
    refine ok_F (by decide) ?_
    refine ok_F (by decide) ?_
    refine ok_T rfl ?_
    refine ok_c (eA hs sp10) (by omega) ?_
    exact ok_r (by omega) ⟨rfl, rfl⟩
  · subst e
    refine hst (pHoli t x5 (i3 (t.1.1.1 1) + ((i3 y / 16) - (i3 y / 16) / 20 * 20)) ((i3 (t.1.1.1 1) + ((i3 y / 16) - (i3 y / 16) / 20 * 20)) + ((i3 y / 512) - (i3 y / 512) / 9 * 9))) ((lv_holi h _ _ _).le L9) (fun a s hs => hpre2 _ a s hs ?_)
    unfold aL_actC
    refine ok_F (by decide) ?_
    refine ok_F (by decide) ?_
    refine ok_F (by decide) ?_
    refine ok_T rfl ?_
    refine ok_c (eA hs sp11) (by omega) ?_
    exact ok_r (by omega) ⟨rfl, rfl⟩
  · subst e
    refine hst (pDrop t x5 ((i3 y / 16) - (i3 y / 16) / 3 * 3)) ((lv_drop h _ _).le L9) (fun a s hs => hpre2 _ a s hs ?_)
    unfold aL_actC
    refine ok_F (by decide) ?_
    refine ok_F (by decide) ?_
    refine ok_F (by decide) ?_
    refine ok_F (by decide) ?_
    refine ok_T rfl ?_
    refine ok_c (eA hs sp12) (by omega) ?_
    exact ok_r (by omega) ⟨rfl, rfl⟩
  · subst e
    refine hst (pClose t (i3 y - i3 y / 4 * 4) ((i3 y / 4) - (i3 y / 4) / 7 * 7) (if ((i3 y / 32) - (i3 y / 32) / 3 * 3) = 0 then 1 else 0)) ((lv_close h _ _ _).le L9) (fun a s hs => hpre2 _ a s hs ?_)
    unfold aL_actC
    refine ok_F (by decide) ?_
    refine ok_F (by decide) ?_
    refine ok_F (by decide) ?_
    refine ok_F (by decide) ?_
    refine ok_F (by decide) ?_
    refine ok_T rfl ?_
    refine ok_l ?_
    refine ok_c (eC hs) (by omega) ?_
    exact ok_r (by omega) ⟨rfl, rfl⟩
  · subst e
    refine hst (pSwap t (i3 y - i3 y / 4 * 4) ((i3 y / 4) - (i3 y / 4) / 4 * 4)) ((lv_swap h _ _).le L9) (fun a s hs => hpre2 _ a s hs ?_)
    unfold aL_actC
    refine ok_F (by decide) ?_
    refine ok_F (by decide) ?_
    refine ok_F (by decide) ?_
    refine ok_F (by decide) ?_
    refine ok_F (by decide) ?_
    refine ok_F (by decide) ?_
    refine ok_T rfl ?_
    refine ok_c (eA hs sp13) (by omega) ?_
    exact ok_r (by omega) ⟨rfl, rfl⟩
  · subst e
    refine hst (pSet t 0 (i3 y - i3 y / 60 * 60)) ((lv_lay h _ _).le L9) (fun a s hs => hpre2 _ a s hs ?_)
    unfold aL_actC
    refine ok_F (by decide) ?_
    refine ok_F (by decide) ?_
    refine ok_F (by decide) ?_
    refine ok_F (by decide) ?_
    refine ok_F (by decide) ?_
    refine ok_F (by decide) ?_
    refine ok_F (by decide) ?_
    refine ok_T rfl ?_
    refine ok_c (eA hs sp14) (by omega) ?_
    exact ok_r (by omega) ⟨rfl, rfl⟩
  · subst e
    refine hst (pSet t (1 + (i3 y - i3 y / 4 * 4)) ((i3 y / 4) - (i3 y / 4) / 10 * 10)) ((lv_lay h _ _).le L9) (fun a s hs => hpre2 _ a s hs ?_)
    unfold aL_actC
    refine ok_F (by decide) ?_
    refine ok_F (by decide) ?_
    refine ok_F (by decide) ?_
    refine ok_F (by decide) ?_
    refine ok_F (by decide) ?_
    refine ok_F (by decide) ?_
    refine ok_F (by decide) ?_
    refine ok_F (by decide) ?_
    refine ok_T rfl ?_
    refine ok_c (eA hs sp14) (by omega) ?_
    exact ok_r (by omega) ⟨rfl, rfl⟩
  · subst e
    by_cases g : 2 ≤ t.1.1.1 1
    · refine hst (pUndo t) ((lv_undo h (by omega)).le L9) (fun a s hs => hpre2 _ a s hs ?_)
      unfold aL_actC
      refine ok_F (by decide) ?_
      refine ok_F (by decide) ?_
      refine ok_F (by decide) ?_
      refine ok_F (by decide) ?_
      refine ok_F (by decide) ?_
      refine ok_F (by decide) ?_
      refine ok_F (by decide) ?_
      refine ok_F (by decide) ?_
      refine ok_F (by decide) ?_
      refine ok_T rfl ?_
      refine ok_T (by rw [n2, i3le (by omega) (by omega)]; exact g) ?_
      refine ok_c (eA hs sp16) (by omega) ?_
      exact ok_r (by omega) ⟨rfl, rfl⟩
    · refine hst (t, -1) (h.le L9) (fun a s hs => hpre2 _ a s hs ?_)
      unfold aL_actC
      refine ok_F (by decide) ?_
      refine ok_F (by decide) ?_
      refine ok_F (by decide) ?_
      refine ok_F (by decide) ?_
      refine ok_F (by decide) ?_
      refine ok_F (by decide) ?_
      refine ok_F (by decide) ?_
      refine ok_F (by decide) ?_
      refine ok_F (by decide) ?_
      refine ok_T rfl ?_
      refine ok_F (by rw [n2, i3le (by omega) (by omega)]; exact g) ?_
      exact ok_r (by omega) ⟨by rw [← hs, gput_sel], rfl⟩
  · subst e
    by_cases g : (i3 y - i3 y / 2 * 2) = 0
    · refine hst (pKeep t ((i3 y / 2) - (i3 y / 2) / 2 * 2)) ((lv_keep h _).le L9) (fun a s hs => hpre2 _ a s hs ?_)
      unfold aL_actC
      refine ok_F (by decide) ?_
      refine ok_F (by decide) ?_
      refine ok_F (by decide) ?_
      refine ok_F (by decide) ?_
      refine ok_F (by decide) ?_
      refine ok_F (by decide) ?_
      refine ok_F (by decide) ?_
      refine ok_F (by decide) ?_
      refine ok_F (by decide) ?_
      refine ok_F (by decide) ?_
      refine ok_T rfl ?_
      refine ok_T g ?_
      refine ok_c (eA hs sp22) (by omega) ?_
      exact ok_r (by omega) ⟨rfl, rfl⟩
    · refine hst (pBack t ((i3 y / 2) - (i3 y / 2) / 2 * 2)) ((lv_back h _).le L9) (fun a s hs => hpre2 _ a s hs ?_)
      unfold aL_actC
      refine ok_F (by decide) ?_
      refine ok_F (by decide) ?_
      refine ok_F (by decide) ?_
      refine ok_F (by decide) ?_
      refine ok_F (by decide) ?_
      refine ok_F (by decide) ?_
      refine ok_F (by decide) ?_
      refine ok_F (by decide) ?_
      refine ok_F (by decide) ?_
      refine ok_F (by decide) ?_
      refine ok_T rfl ?_
      refine ok_F g ?_
      refine ok_c (eA hs sp23) (by omega) ?_
      exact ok_r (by omega) ⟨rfl, rfl⟩
  · have e9 : 1 + (i3 y - i3 y / 9 * 9) = i3 (1 + y % 9) := by rw [n9, i3r (by omega) (by omega), n1, i3a]
    refine hst (pDays t (i3 (1 + y % 9))) ((lv_days h (by omega)).le (by omega)) (fun a s hs => hpre2 _ a s hs ?_)
    unfold aL_actC
    refine ok_F (by rw [n0, i3e (by omega) (by omega)]; omega) ?_
    refine ok_F (by rw [n1, i3e (by omega) (by omega)]; omega) ?_
    refine ok_F (by rw [n2, i3e (by omega) (by omega)]; omega) ?_
    refine ok_F (by rw [n3, i3e (by omega) (by omega)]; omega) ?_
    refine ok_F (by rw [n4, i3e (by omega) (by omega)]; omega) ?_
    refine ok_F (by rw [n5, i3e (by omega) (by omega)]; omega) ?_
    refine ok_F (by rw [n6, i3e (by omega) (by omega)]; omega) ?_
    refine ok_F (by rw [n7, i3e (by omega) (by omega)]; omega) ?_
    refine ok_F (by rw [n8, i3e (by omega) (by omega)]; omega) ?_
    refine ok_F (by rw [n9, i3e (by omega) (by omega)]; omega) ?_
    refine ok_F (by rw [n10, i3e (by omega) (by omega)]; omega) ?_
    rw [e9]
    refine ok_c (eA hs (sp15 (by omega))) (by omega) ?_
    exact ok_r (by omega) ⟨rfl, rfl⟩
end LA
