/-! what holds in each book -/
theorem set15b : ∀ a b c d : Fin 4, (decide (a = b) || (decide (a = c) || (decide (a = d) || (decide (b = c) || (decide (b = d) || (decide (c = d) || decide (((((0 : Int32) ||| (1 <<< (i3 a.val &&& 31))) ||| (1 <<< (i3 b.val &&& 31))) ||| (1 <<< (i3 c.val &&& 31))) ||| (1 <<< (i3 d.val &&& 31)) = 15))))))) = true := by decide +kernel
theorem set15 (a b c d : Fin 4) (h1 : a ≠ b) (h2 : a ≠ c) (h3 : a ≠ d) (h4 : b ≠ c) (h5 : b ≠ d) (h6 : c ≠ d) : ((((0 : Int32) ||| (1 <<< (i3 a.val &&& 31))) ||| (1 <<< (i3 b.val &&& 31))) ||| (1 <<< (i3 c.val &&& 31))) ||| (1 <<< (i3 d.val &&& 31)) = 15 := by
  have := set15b a b c d
  rw [decide_eq_false h1, decide_eq_false h2, decide_eq_false h3, decide_eq_false h4, decide_eq_false h5, decide_eq_false h6] at this
  simp only [Bool.false_or] at this
  exact of_decide_eq_true this
theorem iz1 {α : Type} {c : Prop} [Decidable c] {d : Prop} [Decidable d] {x y : α} (h : c ↔ d) : (if c then x else y) = (if d then x else y) := by
  by_cases q : c
  · rw [if_pos q, if_pos (h.mp q)]
  · rw [if_neg q, if_neg (fun r => q (h.mpr r))]
section HO
variable {P : gS → Int32 → Prop} {a : Nat} {s : gS} {t : gT}
theorem h72 {c : Nat} (hs : gsel a s = t) (hc : c < t.1.1.1 0) (hn : t.1.1.1 0 ≤ 10) {v1 v2 v3 v4 v5 v6 v7 v8 v9 v10 : Int32} {r55 : Int32 → Int32 → Int32 → Int32 → Int32 → Int32 → Int32 → Int32 → Int32 → gS × Nat → Option (gS × Int32)} {K : Int32 → gS × Nat → Option (gS × Int32)} : ∀ (f j w m : Nat), w + j = 7 → j < f → m + j ≤ 600 → Ok (K (i3 (sm (fun w => t.1.1.2 c (1 + w)) 7)) (s, m + j)) P → Ok (fL_holds_L72 a v1 v2 v3 v4 v5 v6 v7 v8 v9 v10 (i3 c) r55 K f (i3 (sm (fun w => t.1.1.2 c (1 + w)) w)) (i3 w) (s, m)) P := by
  intro f
  induction f with
  | zero => intro j w m h1 h2; omega
  | succ f ih =>
    intro j w m hj hf hm hk
    unfold fL_holds_L72
    cases j with
    | zero =>
      have e : w = 7 := by omega
      subst e
      exact ok_T (by rw [n7, i3le (by omega) (by omega)]; omega) hk
    | succ j =>
      refine ok_F (by rw [n7, i3le (by omega) (by omega)]; omega) ?_
      refine ok_c (eV (s := s) hs sp4 (q_ord hc hn (by omega))) (by omega) ?_
      refine ok_j (fun x hx => ?_)
      rw [i3a] at hx
      subst hx
      refine ok_j (fun y hy => ?_)
      rw [n1, i3a] at hy
      subst hy
      refine ih j (w + 1) (m + 1) (by omega) (by omega) (by omega) ?_
      rw [show m + 1 + j = m + (j + 1) by omega]
      exact hk
theorem h583 (hs : gsel a s = t) {v4 v5 v6 v7 v8 v9 v10 : Int32} {K : Int32 → gS × Nat → Option (gS × Int32)} {m : Nat} (hm : m + 4 ≤ 600) (ho : t.1.1.1 16 < 4 ∧ t.1.1.1 17 < 4 ∧ t.1.1.1 18 < 4 ∧ t.1.1.1 19 < 4 ∧ t.1.1.1 16 ≠ t.1.1.1 17 ∧ t.1.1.1 16 ≠ t.1.1.1 18 ∧ t.1.1.1 16 ≠ t.1.1.1 19 ∧ t.1.1.1 17 ≠ t.1.1.1 18 ∧ t.1.1.1 17 ≠ t.1.1.1 19 ∧ t.1.1.1 18 ≠ t.1.1.1 19) (hk : ∀ m', m' ≤ m + 4 → Ok (K 15 (s, m')) P) : Ok (fL_holds_L583 a v4 v5 v6 v7 v8 v9 v10 1 K gFU 0 0 (s, m)) P := by
  have e15 := set15 ⟨_, ho.1⟩ ⟨_, ho.2.1⟩ ⟨_, ho.2.2.1⟩ ⟨_, ho.2.2.2.1⟩ (fun q => ho.2.2.2.2.1 (Fin.mk.inj q)) (fun q => ho.2.2.2.2.2.1 (Fin.mk.inj q)) (fun q => ho.2.2.2.2.2.2.1 (Fin.mk.inj q)) (fun q => ho.2.2.2.2.2.2.2.1 (Fin.mk.inj q)) (fun q => ho.2.2.2.2.2.2.2.2.1 (Fin.mk.inj q)) (fun q => ho.2.2.2.2.2.2.2.2.2 (Fin.mk.inj q))
  have st : ∀ (f k m : Nat) (v : Int32), k < 4 → m + 1 ≤ 600 → Ok (fL_holds_L583 a v4 v5 v6 v7 v8 v9 v10 1 K f (v ||| (1 <<< (i3 (t.1.1.1 (16 + k)) &&& 31))) (i3 (k + 1)) (s, m + 1)) P → Ok (fL_holds_L583 a v4 v5 v6 v7 v8 v9 v10 1 K (f + 1) v (i3 k) (s, m)) P := fun f k m v h1 h2 h3 => by
    conv => arg 1; unfold fL_holds_L583
    refine ok_F (by rw [n4, i3le (by omega) (by omega)]; omega) ?_
    refine ok_F (by decide) ?_
    refine ok_c (eV (s := s) hs sp7 (q_round h1)) h2 ?_
    refine ok_l ?_
    refine ok_j (fun y hy => ?_)
    rw [n1, i3a] at hy
    subst hy
    exact h3
  refine st 4999 0 m 0 (by omega) (by omega) ?_
  refine st 4998 1 (m + 1) _ (by omega) (by omega) ?_
  refine st 4997 2 (m + 1 + 1) _ (by omega) (by omega) ?_
  refine st 4996 3 (m + 1 + 1 + 1) _ (by omega) (by omega) ?_
  show Ok (fL_holds_L583 a v4 v5 v6 v7 v8 v9 v10 1 K (4995 + 1) _ _ _) P
  unfold fL_holds_L583
  refine ok_T (by decide) ?_
  rw [show _ = (15 : Int32) from e15]
  exact hk _ (by omega)
theorem i3z {n : Nat} (h : n < 2147483648) : (i3 n = 0) ↔ n = 0 := by
  rw [n0, i3e h (by omega)]
theorem i3gt0 {n : Nat} (h : n < 2147483648) : (0 < i3 n) ↔ 0 < n := by
  rw [n0, i3lt (by omega) h]
theorem i3le0 {n : Nat} (h : n < 2147483648) : (i3 n ≤ 0) ↔ n = 0 := by
  rw [n0, i3le h (by omega)]
  omega
theorem h55 {B p : Nat} (hs : gsel a s = t) (h : Gz B t.1) (hB : B ≤ 900) (hp : p < 2147483648) {K : Int32 → Int32 → Int32 → Int32 → Int32 → Int32 → Int32 → Int32 → gS × Nat → Option (gS × Int32)} : ∀ (f j c m : Nat), c + j = t.1.1.1 0 → j < f → m + 40 * j ≤ 500 → (∀ m', m' ≤ 500 → Ok (K (i3 (sm (fun c => t.1.2.2 c 9) (t.1.1.1 0))) (i3 (sm (fun c => t.1.2.2 c 10) (t.1.1.1 0))) (i3 (sm (fun c => t.1.2.2 c 11) (t.1.1.1 0))) (i3 (sm (fun c => t.1.2.2 c 8) (t.1.1.1 0))) (i3 (sm (fun c => t.1.2.2 c 12) (t.1.1.1 0))) (i3 (sm (fun c => t.1.2.2 c 13) (t.1.1.1 0))) (i3 (sm (fun c => du t.1.1 c (t.1.1.1 1)) (t.1.1.1 0))) 1 (s, m')) P) → Ok (fL_holds_L55 a (i3 p) (i3 (t.1.1.1 0)) (i3 (t.1.1.1 1)) K f (i3 (sm (fun c => t.1.2.2 c 9) c)) (i3 (sm (fun c => t.1.2.2 c 10) c)) (i3 (sm (fun c => t.1.2.2 c 11) c)) (i3 (sm (fun c => t.1.2.2 c 8) c)) (i3 (sm (fun c => t.1.2.2 c 12) c)) (i3 (sm (fun c => t.1.2.2 c 13) c)) (i3 (sm (fun c => du t.1.1 c (t.1.1.1 1)) c)) 1 (i3 c) (s, m)) P := by
  have hI := h.1.1
  have hn := hI.1
  have hT := hI.2.1
  intro f
  induction f with
  | zero => intro j c m h1 h2; omega
  | succ f ih =>
    intro j c m hj hf hm hk
    cases j with
    | zero =>
      have e : c = t.1.1.1 0 := by omega
      subst e
      unfold fL_holds_L55
      exact ok_T (by rw [i3le (by omega) (by omega)]; omega) (hk m (by omega))
    | succ j =>
      have hc : c < t.1.1.1 0 := by omega
      have hD8 : t.1.2.2 c 8 ≤ 30 := h.1.2.1 c hc
      have hdu : du t.1.1 c (t.1.1.1 1) ≤ 9 := du_le hI hc
      have t0 : qTold t (i3 c) 0 = i3 (t.1.1.2 c 0) := q_told (k := 0) hc hn (by omega)
      have t1 : qTold t (i3 c) 1 = i3 (sm (fun w => t.1.1.2 c (1 + w)) 7) := q_told (k := 1) hc hn (by omega)
      have t2 : qTold t (i3 c) 2 = i3 (t.1.2.2 c 8) := q_told (k := 2) hc hn (by omega)
      have t3 : qTold t (i3 c) 3 = i3 (t.1.2.2 c 9) := q_told (k := 3) hc hn (by omega)
      have t4 : qTold t (i3 c) 4 = i3 (t.1.2.2 c 10) := q_told (k := 4) hc hn (by omega)
      have t5 : qTold t (i3 c) 5 = i3 (t.1.2.2 c 11) := q_told (k := 5) hc hn (by omega)
      have t6 : qTold t (i3 c) 6 = i3 (t.1.2.2 c 12) := q_told (k := 6) hc hn (by omega)
      have t7 : qTold t (i3 c) 7 = i3 (t.1.2.2 c 13) := q_told (k := 7) hc hn (by omega)
      have t9 : qTold t (i3 c) 9 = i3 (du t.1.1 c (t.1.1.1 1)) := q_told (k := 9) hc hn (by omega)
      have t10 : qTold t (i3 c) 10 = nxF t.1.1 c 201 (t.1.1.1 1) := q_told (k := 10) hc hn (by omega)
      obtain ⟨w, ew, w5, -, -, -, wz, wp, wo, -⟩ := why_all hI hc
      have tw : qWhy t (i3 c) = i3 w := by rw [q_why hc hn, ew]
      have tcl : qClear t (i3 c) = clr t.1 c 201 0 := q_clear hc hn
      have tcr : qCredit t (i3 c) 0 = i3 (t.1.2.2 c 8) := q_credit (k := 0) hc hn (by omega)
      obtain ⟨d, hd⟩ : ∃ d, d = du t.1.1 c (t.1.1.1 1) := ⟨_, rfl⟩
      obtain ⟨T, hT'⟩ : ∃ T, T = t.1.1.1 1 := ⟨_, rfl⟩
      have hst := (hI.cust hc).1
      unfold fL_holds_L55
      refine ok_F (by rw [i3le (by omega) (by omega)]; omega) ?_
      refine ok_F (by decide) ?_
      refine ok_j (fun k70 h70 => ?_)
      refine h72 hs hc hn gFU 7 0 m rfl (by show 7 < 5000; omega) (by omega) ?_
      refine ok_k1 h70 ?_
      refine ok_c (eV (s := s) hs sp3 t9) (by omega) ?_
      refine ok_c (eV (s := s) hs sp3 t10) (by omega) ?_
      refine ok_c (eV (s := s) hs sp17 tw) (by omega) ?_
      refine ok_c (eV (s := s) hs sp3 t3) (by omega) ?_
      refine ok_j (fun x84 h84 => ?_)
      refine ok_c (eV (s := s) hs sp3 t4) (by omega) ?_
      refine ok_j (fun x88 h88 => ?_)
      refine ok_c (eV (s := s) hs sp3 t5) (by omega) ?_
      refine ok_j (fun x92 h92 => ?_)
      refine ok_c (eV (s := s) hs sp3 t6) (by omega) ?_
      refine ok_j (fun x96 h96 => ?_)
      refine ok_c (eV (s := s) hs sp3 t7) (by omega) ?_
      refine ok_j (fun x100 h100 => ?_)
      refine ok_c (eV (s := s) hs sp3 t2) (by omega) ?_
      refine ok_j (fun x104 h104 => ?_)
      refine ok_j (fun x105 h105 => ?_)
      refine ok_c (eV (s := s) hs sp3 t1) (by omega) ?_
      refine ok_j (fun k111 h111 => ?_)
      -- what follows behind the customer's first word
      have H111 : ∀ m', m' ≤ m + 32 → Ok (k111 1 (s, m')) P := by
        intro m' hm'
        have go : ∀ m2, m2 ≤ m + 40 → Ok (fL_holds_L55 a (i3 p) (i3 (t.1.1.1 0)) (i3 (t.1.1.1 1)) K f x84 x88 x92 x104 x96 x100 x105 1 (i3 c + 1) (s, m2)) P := by
          intro m2 hm2
          rw [h84, h88, h92, h104, h96, h100, h105, n1, i3a, i3a, i3a, i3a, i3a, i3a, i3a, i3a]
          exact ih j (c + 1) m2 (by omega) (by omega) (by omega) hk
        refine ok_k1 h111 ?_
        refine ok_j (fun x113 h113 => ?_)
        refine ok_j (fun x114 h114 => ?_)
        refine ok_j (fun x115 h115 => ?_)
        obtain ⟨fr, hfr⟩ : ∃ fr, fr = p % 1000 := ⟨_, rfl⟩
        obtain ⟨da, hda⟩ : ∃ da, da = p / 1000 % 400 := ⟨_, rfl⟩
        obtain ⟨on, hon⟩ : ∃ on, on = da / 3 := ⟨_, rfl⟩
        rw [n1000, i3r (by omega) (by omega), ← hfr] at h113
        rw [n1000, i3d (by omega) (by omega), show (400 : Int32) = i3 400 from rfl, i3r (by omega) (by omega), ← hda] at h114
        rw [h114, n3, i3d (by omega) (by omega), ← hon] at h115
        subst h113 h114 h115
        have hfr9 : fr ≤ 999 := by omega
        have hda4 : da ≤ 399 := by omega
        refine ok_F (by decide) ?_
        refine ok_c (e_due (s := s) (v := 0) hs hc hn hfr9 (by omega) (by omega)) (by omega) ?_
        refine ok_c (e_due (s := s) (v := 1) hs hc hn hfr9 (by omega) (by omega)) (by omega) ?_
        refine ok_T rfl ?_
        rw [i3a]
        by_cases q : 999 < fr + on
        · refine ok_T (by rw [n999, i3lt (by omega) (by omega)]; exact q) ?_
          exact go _ (by omega)
        · refine ok_F (by rw [n999, i3lt (by omega) (by omega)]; exact q) ?_
          refine ok_c (e_due (s := s) (v := 1) hs hc hn hfr9 (by omega) (by omega)) (by omega) ?_
          rw [i3s (show on ≤ da by omega)]
          refine ok_c (e_due (s := s) (v := 1) hs hc hn (by omega) (by omega) (by omega)) (by omega) ?_
          refine ok_c (e_due (s := s) (v := 1) hs hc hn hfr9 (by omega) (by omega)) (by omega) ?_
          refine ok_lT ?_ ?_
          · rw [i3a, ← sI_split, show on + (da - on) = da by omega]
          · exact go _ (by omega)
      refine ok_T rfl ?_
      refine ok_c (eV (s := s) hs sp3 t2) (by omega) ?_
      refine ok_F (i3n (by omega)) ?_
      refine ok_j (fun k142 h142 => ?_)
      have H142 : Ok (k142 (s, m + 7 + 1 + 1 + 1 + 1 + 1 + 1 + 1 + 1 + 1 + 1 + 1)) P := by
        refine ok_k0 h142 ?_
        refine ok_l ?_
        refine ok_l ?_
        rw [← hd] at hdu wz wp ⊢
        refine ok_T ?_ ?_
        · refine iz1 ?_ |>.trans (b := if d ≠ 0 then (1 : Int32) else 0) ?_
          · rcases nxF_all t.1.1 c 201 (t.1.1.1 1) with ⟨r, r1, r2, r3, r4, r5⟩ | ⟨r3, r5⟩
            · rw [r3, i3e (by omega) (by omega)]
              constructor
              · intro q
                subst q
                rw [hd]
                exact r4
              · intro q
                by_cases g : r = t.1.1.1 1
                · exact g
                · exact absurd (r5 (t.1.1.1 1) (by omega) (by omega)) (by rw [← hd]; exact q)
            · rw [r3]
              constructor
              · intro q
                exact absurd q.symm (i3nm (by omega))
              · intro q
                exact absurd (r5 (t.1.1.1 1) (by omega) (by omega)) (by rw [← hd]; exact q)
          · by_cases g : d = 0
            · rw [if_neg (fun r => r g), if_pos ((i3le0 (by omega)).mpr g)]
            · rw [if_pos g, if_neg (fun r => g ((i3le0 (by omega)).mp r))]
        · refine ok_j (fun k151 h151 => ?_)
          have H151 : Ok (k151 (s, m + 7 + 1 + 1 + 1 + 1 + 1 + 1 + 1 + 1 + 1 + 1 + 1)) P := by
            refine ok_k0 h151 ?_
            refine ok_j (fun k154 h154 => ?_)
            have H154 : Ok (k154 (s, m + 7 + 1 + 1 + 1 + 1 + 1 + 1 + 1 + 1 + 1 + 1 + 1)) P := by
              refine ok_k0 h154 ?_
              refine ok_c (eV (s := s) hs sp3 t0) (by omega) ?_
              have t11 : qClosed t (i3 (t.1.1.2 c 0)) (i3 (t.1.1.1 1) - i3 (t.1.1.1 1) / 7 * 7) = i3 (t.1.1.1 (20 + 7 * t.1.1.2 c 0 + t.1.1.1 1 % 7)) := by
                rw [n7, i3r (by omega) (by omega)]
                exact q_closed hst (by omega)
              refine ok_c (eV (s := s) hs sp6 t11) (by omega) ?_
              refine ok_j (fun k163 h163 => ?_)
              have H163 : ∀ m', m' ≤ m + 21 → Ok (k163 (s, m')) P := by
                intro m' hm'
                refine ok_k0 h163 ?_
                refine ok_j (fun k166 h166 => ?_)
                have H166 : ∀ m', m' ≤ m + 22 → Ok (k166 (s, m')) P := by
                  intro m' hm'
                  refine ok_k0 h166 ?_
                  refine ok_c (eV (s := s) hs sp19 tcl) (by omega) ?_
                  refine ok_l ?_
                  refine ok_c (eV (s := s) hs sp3 t2) (by omega) ?_
                  refine ok_l ?_
                  refine ok_T ?_ ?_
                  · refine iz1 ?_
                    rw [i3z (by omega)]
                    rcases clr_all t.1 c 201 0 with ⟨r, r1, r2, r3, r4, r5⟩ | ⟨r3, r5⟩
                    · rw [r3, i3z (by omega)]
                      constructor
                      · intro q
                        subst q
                        exact r4
                      · intro q
                        by_cases g : r = 0
                        · exact g
                        · exact absurd q (r5 0 (by omega) (by omega))
                    · rw [r3]
                      constructor
                      · intro q
                        exact absurd q (by decide)
                      · intro q
                        exact absurd q (r5 0 (by omega) (by omega))
                  · refine ok_c (eV (s := s) hs sp18 tcr) (by omega) ?_
                    refine ok_c (eV (s := s) hs sp3 t2) (by omega) ?_
                    refine ok_T rfl ?_
                    exact H111 _ (by omega)
                refine ok_F (by rw [n999, i3lt (by omega) (by omega)]; omega) ?_
                refine ok_c (e_due (s := s) (n := 1) (v := 0) hs hc hn (by omega) (by omega) (by omega)) (by omega) ?_
                refine ok_T ?_ ?_
                · rw [hd]
                  show i3 _ = i3 (sm (fun i => duS (t.1.1.2 c) (t.1.1.1 1 + i)) 1)
                  show i3 _ = i3 (0 + du t.1.1 c (t.1.1.1 1))
                  rw [Nat.zero_add]
                · exact H166 _ (by omega)
              have hsh : t.1.1.1 (20 + 7 * t.1.1.2 c 0 + t.1.1.1 1 % 7) < 2147483648 := by
                have := hI.2.2.2.2.1 (7 * t.1.1.2 c 0 + t.1.1.1 1 % 7) (by omega)
                rw [← Nat.add_assoc] at this
                omega
              by_cases g : t.1.1.1 (20 + 7 * t.1.1.2 c 0 + t.1.1.1 1 % 7) = 0
              · exact ok_T ((i3z hsh).mpr g) (H163 _ (by omega))
              · refine ok_F (fun r => g ((i3z hsh).mp r)) ?_
                obtain ⟨o1, o2⟩ := wo (decide_eq_false g)
                refine ok_F (fun r => by have := (i3le0 (by omega)).mp r; omega) ?_
                refine ok_F (by rw [n4, i3le (by omega) (by omega)]; omega) ?_
                exact H163 _ (by omega)
            by_cases g : 2 < w
            · exact ok_T (by rw [n2, i3lt (by omega) (by omega)]; exact g) H154
            · refine ok_F (by rw [n2, i3lt (by omega) (by omega)]; exact g) ?_
              by_cases g2 : d = 0
              · exact ok_T ((i3z (by omega)).mpr g2) H154
              · refine ok_F (fun r => g2 ((i3z (by omega)).mp r)) ?_
                have := wp (by omega)
                exact ok_T ((i3z (by omega)).mpr (by omega)) H154
          by_cases g : 0 < d
          · exact ok_T ((i3gt0 (by omega)).mpr g) H151
          · refine ok_F (fun r => g ((i3gt0 (by omega)).mp r)) ?_
            rcases wz (by omega) with g2 | g2
            · subst g2
              exact ok_T rfl H151
            · subst g2
              exact ok_F (by decide) (ok_T rfl H151)
      rcases nxF_all t.1.1 c 201 (t.1.1.1 1) with ⟨r, r1, r2, r3, r4, r5⟩ | ⟨r3, r5⟩
      · refine ok_F (by rw [r3]; exact i3nm (by omega)) ?_
        refine ok_F (by rw [r3, i3lt (by omega) (by omega)]; omega) ?_
        refine ok_F (by rw [r3, n200, i3a, i3lt (by omega) (by omega)]; omega) ?_
        exact H142
      · exact ok_T r3 H142
/-- what holds in a book holds -/
theorem e_holds {B p : Nat} (hs : gsel a s = t) (h : Gz B t.1) (hB : B ≤ 900) (hp : p < 2147483648) : aL_holds a (i3 p) s = some (s, 1) := by
  have hI := h.1.1
  have hn := hI.1
  refine ok_eq ?_
  unfold aL_holds aL_holdsB
  have ab : ∀ k : Nat, k ≤ 12 → qAbout t (i3 k) = i3 (abN t.1.1 t.1.2 k) := fun k hk => q_about hk
  refine ok_c (eV (s := s) hs sp2 (ab 0 (by omega))) (by omega) ?_
  refine ok_c (eV (s := s) hs sp2 (ab 1 (by omega))) (by omega) ?_
  refine ok_lF (by show ¬ ((10 : Int32) < i3 (t.1.1.1 0)); rw [n10, i3lt (by omega) (by omega)]; omega) ?_
  refine ok_j (fun k19 h19 => ?_)
  refine h55 hs h hB hp gFU (t.1.1.1 0) 0 _ (Nat.zero_add _) (by show t.1.1.1 0 < 5000; omega) (by omega) ?_
  intro m' hm'
  rw [h19]
  refine ok_j (fun k23 h23 => ?_)
  refine h583 hs (by omega) hI.2.2.2.1 ?_
  intro m2 hm2
  obtain ⟨i8, i3', i4', i6, i9, i10⟩ := h.1.2
  refine ok_k1 h23 ?_
  refine ok_F (by decide) ?_
  refine ok_T rfl ?_
  refine ok_c (eV (s := s) hs sp2 (ab 3 (by omega))) (by omega) ?_
  refine ok_T (congrArg i3 i3'.symm) ?_
  refine ok_c (eV (s := s) hs sp2 (ab 4 (by omega))) (by omega) ?_
  refine ok_T (congrArg i3 i4'.symm) ?_
  refine ok_c (eV (s := s) hs sp2 (ab 7 (by omega))) (by omega) ?_
  refine ok_T (congrArg i3 i6.symm) ?_
  refine ok_c (eV (s := s) hs sp2 (ab 6 (by omega))) (by omega) ?_
  refine ok_T rfl ?_
  refine ok_c (eV (s := s) hs sp2 (ab 10 (by omega))) (by omega) ?_
  refine ok_T (congrArg i3 i9.symm) ?_
  refine ok_c (eV (s := s) hs sp2 (ab 11 (by omega))) (by omega) ?_
  refine ok_T (congrArg i3 i10.symm) ?_
  refine ok_c (eV (s := s) hs sp2 (ab 12 (by omega))) (by omega) ?_
  refine ok_T rfl ?_
  refine ok_c (eV (s := s) hs sp2 (ab 2 (by omega))) (by omega) ?_
  refine ok_c (eV (s := s) hs sp2 (ab 5 (by omega))) (by omega) ?_
  refine ok_T ?_ ?_
  · rw [i3a, i3a, ← i3', ← i4']
    exact congrArg i3 h.2
  · exact ok_b1 (ok_r (by omega) ⟨rfl, rfl⟩)
end HO
