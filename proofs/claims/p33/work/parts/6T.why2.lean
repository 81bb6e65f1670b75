/-! why, for any pair of books -/
def lbf (S : gB) (d c : Nat) : List Nat → Nat → Nat
  | [], van => van
  | x :: xs, van => if x = c then van else lbf S d c xs (van - if op S x d = true then min van (du S x d) else 0)
theorem whyC {b t B hh c : Nat} {S D : gB} {m : gM} (h : Cx b S D hh m) (hI : Is B S) (hv : Vs b S m) (hc : c < S.1 0) (ht : S.1 1 < 100000) (e : t = S.1 1) : ∀ (f j k van : Nat), k + j = S.1 0 → j < f → c ∈ (rnd S).drop k → van < 1000 → fX0_leftBefore_L15 b (i3 c) f (i3 van) (i3 k) m = some (m, i3 (lbf S t c ((rnd S).drop k) van)) ∧ lbf S t c ((rnd S).drop k) van < 1000 := by
  have hn := hI.1
  have hl := rnd_len hI
  intro f
  induction f with
  | zero => intro j k van h1 h2; omega
  | succ f ih =>
    intro j k van h1 h3 hm h4
    cases j with
    | zero =>
      rw [List.drop_eq_nil_of_le (by omega)] at hm
      cases hm
    | succ j =>
      obtain ⟨x, hx, e2, e1⟩ := rnd_at hI (k := k) (by omega)
      have hdx := du_le (d := t) hI hx
      unfold fX0_leftBefore_L15
      rw [h.h0, gLtI, iLe (by omega) (by omega), if_neg (by omega), gRdI (by omega) (by omega), hv k x e2, iEq (by omega) (by omega), e1]
      unfold lbf
      by_cases q : x = c
      · rw [if_pos q, if_pos q]
        exact ⟨rfl, h4⟩
      · have hm2 : c ∈ (rnd S).drop (k + 1) := by
          rw [e1, List.mem_cons] at hm
          rcases hm with r | r
          · exact absurd r.symm q
          · exact r
        rw [if_neg q, if_neg q, gRdI (by omega) (by omega), hv k x e2, gEl10 (by omega), c_reach h hI hx (by omega), gClI, ← e, gLtI, iB0]
        cases ho : op S x t with
        | true =>
          rw [if_pos rfl, if_pos rfl, h.h1, ← e, gLtI, c_du (h.c hx) (hI.cust hx) (by omega), gClI, show duS (S.2 x) t = du S x t from rfl, jminI (by omega) (by omega), gLtI, i3s (Nat.min_le_left _ _), gLtI]
          dsimp only
          rw [gLtI, n1, i3a]
          exact ih j (k + 1) _ (by omega) (by omega) hm2 (by omega)
        | false =>
          rw [if_neg (by decide), if_neg (by decide), Nat.sub_zero]
          dsimp only
          rw [gLtI, n1, i3a]
          exact ih j (k + 1) van (by omega) (by omega) hm2 h4
/-- why a customer will not get today what is ordered, in full -/
def whyV (S : gB) (c : Nat) : Int32 := if S.2 c (1 + S.1 1 % 7) = 0 then 1 else if aw S c (S.1 1) = true then 2 else if op S c (S.1 1) = false then 3 else if lbf S (S.1 1) c ((rnd S).drop 0) (bk S (S.1 1)) = 0 then 4 else if du S c (S.1 1) ≤ lbf S (S.1 1) c ((rnd S).drop 0) (bk S (S.1 1)) then 0 else 5
theorem why2 {b B c : Nat} {S D : gB} (hI : Iv B S D) (hB : B < 100000) (hc : c < S.1 0) : ∀ m, Cb b S D m → ∃ m', fX0_reasonFor b (i3 c) m = some (m', whyV S c) ∧ Cb b S D m' ∧ Fr b 308 m m' := by
  have hn := hI.1.1
  have hd := hI.1.2.1
  have hs0 := (hI.1.cust hc).1
  have hw9 := (hI.1.cust hc).2.1 (S.1 1 % 7) (by omega)
  have hdc := du_le (d := S.1 1) hI.1 hc
  have hbk := bk_le (d := S.1 1) hI.1
  have ha := aldu_le (d := S.1 1) hI.1
  have hmem : c ∈ (rnd S).drop 0 := by rw [List.drop_zero]; exact (rnd_mem hI.1 c).mpr hc
  unfold whyV
  intro m hb
  · unfold fX0_reasonFor
    rw [gEl10 (by omega), Cx.h1 hb, gLtI, c_wd (by omega), gClI, (Cx.c hb hc).rW (by omega), n0, iEq (by omega) (by omega)]
    by_cases q : S.2 c (1 + S.1 1 % 7) = 0
    · rw [if_pos q, if_pos q]
      exact ⟨m, rfl, hb, Fr.rf⟩
    · rw [if_neg q, if_neg q, Cx.h1 hb, gLtI]
      unfold fX1_isAwayOn
      rw [(Cx.c hb hc).f7, gLtI, c_aw (Cx.c hb hc) (hI.1.cust hc) (by omega) (Nat.le_refl _), gClI, gRzB, gClI, iB0', show awK (S.2 c) (S.1 1) (S.2 c 14) = aw S c (S.1 1) from rfl]
      cases aw S c (S.1 1) with
      | true => exact ⟨m, rfl, hb, Fr.rf⟩
      | false =>
        rw [if_neg (by decide), if_neg (by decide), c_reach hb hI.1 hc (by omega), gClI, iB0']
        cases op S c (S.1 1) with
        | false => exact ⟨m, rfl, hb, Fr.rf⟩
        | true =>
          obtain ⟨m', e1, e2, e3⟩ := c_plan hb hI.1
          have hb' : Cb b S D m' := Cx.frV hb e2
          obtain ⟨z1, z2⟩ := whyC hb' hI.1 e3 hc (by omega) rfl gFU (S.1 0) 0 (bk S (S.1 1)) (by omega) (by show S.1 0 < 5000; omega) hmem (by omega)
          rw [if_pos rfl, if_neg (by decide)]
          unfold fX0_leftBefore
          rw [e1, gCvI, c_all hb' hI.1 (by omega), gClI, c_lf hb' hI.1 (by omega), gClI, show min (aldu S (S.1 1) + S.1 12) (S.1 11) = bk S (S.1 1) from rfl, n0, z1, gClI, iEq (by omega) (by omega), Cx.h1 hb', gLtI, c_du (Cx.c hb' hc) (hI.1.cust hc) (by omega), gClI, show duS (S.2 c) (S.1 1) = du S c (S.1 1) from rfl, iLe (by omega) (by omega)]
          refine ⟨m', ?_, hb', e2.sub (by omega) (by omega)⟩
          by_cases r1 : lbf S (S.1 1) c ((rnd S).drop 0) (bk S (S.1 1)) = 0
          · rw [if_pos r1, if_pos r1]
          · rw [if_neg r1, if_neg r1]
            by_cases r2 : du S c (S.1 1) ≤ lbf S (S.1 1) c ((rnd S).drop 0) (bk S (S.1 1))
            · rw [if_pos r2, if_pos r2]
            · rw [if_neg r2, if_neg r2]
