/-! the book in naturals: a static side S and a side D that a day's round writes -/
abbrev gB : Type := (Nat → Nat) × (Nat → Nat → Nat)
def up {α : Type} (f : Nat → α) (i : Nat) (v : α) : Nat → α := fun j => if j = i then v else f j
theorem up_s {α : Type} {f : Nat → α} {i : Nat} {v : α} : up f i v i = v := by simp [up]
theorem up_n {α : Type} {f : Nat → α} {i j : Nat} {v : α} (h : j ≠ i) : up f i v j = f j := by simp [up, h]
def sH (s : gB) (i v : Nat) : gB := (up s.1 i v, s.2)
def sC (s : gB) (c j v : Nat) : gB := (s.1, up s.2 c (up (s.2 c) j v))
def awK (t : Nat → Nat) (d : Nat) : Nat → Bool
  | 0 => false
  | k + 1 => awK t d k || decide (t (15 + 2 * k) ≤ d ∧ d ≤ t (15 + 2 * k + 1))
def aw (S : gB) (c d : Nat) : Bool := awK (S.2 c) d (S.2 c 14)
def du (S : gB) (c d : Nat) : Nat := if aw S c d then 0 else S.2 c (1 + d % 7)
def aldu (S : gB) (d : Nat) : Nat := sm (fun c => du S c d) (S.1 0)
def op (S : gB) (c d : Nat) : Bool := decide (S.1 (20 + 7 * S.2 c 0 + d % 7) = 0)
def bk (S : gB) (d : Nat) : Nat := min (aldu S d + S.1 12) (S.1 11)
def lst (S : gB) (p : Nat) : Nat → Nat → List Nat
  | _, 0 => []
  | c, j + 1 => if S.2 c 0 = S.1 (16 + p) then c :: lst S p (c + 1) j else lst S p (c + 1) j
def rndF (S : gB) : Nat → Nat → List Nat
  | _, 0 => []
  | p, q + 1 => lst S p 0 (S.1 0) ++ rndF S (p + 1) q
def rnd (S : gB) : List Nat := rndF S 0 4
def stD (S : gB) (d : Nat) (z : gB × Nat) (c : Nat) : gB × Nat :=
  let due := du S c d
  let g := if op S c d then min due z.2 else 0
  let mi := if 0 < due ∧ g = 0 then 1 else 0
  let la := if 0 < g ∧ g < due then 1 else 0
  let D := z.1
  let D := sH D 7 (D.1 7 + due * S.1 15)
  let D := sH D 3 (D.1 3 + g)
  let D := sC D c 9 (D.2 c 9 + g)
  let D := sC D c 8 (D.2 c 8 + (due - g))
  let D := sH D 9 (D.1 9 + mi)
  let D := sH D 10 (D.1 10 + la)
  let D := sC D c 12 (D.2 c 12 + mi)
  let D := sC D c 13 (D.2 c 13 + la)
  (D, z.2 - g)
def stG (S : gB) (d : Nat) (z : gB × Nat) (c : Nat) : gB × Nat :=
  let g := if op S c d && !aw S c d then min (min (z.1.2 c 8) (S.1 13)) z.2 else 0
  let D := z.1
  let D := sH D 4 (D.1 4 + g)
  let D := sC D c 10 (D.2 c 10 + g)
  let D := sC D c 8 (D.2 c 8 - g)
  (D, z.2 - g)
def stP (S : gB) (D : gB) (c : Nat) : gB :=
  let g := D.2 c 8 - S.1 14
  let D := sC D c 8 (D.2 c 8 - g)
  let D := sC D c 11 (D.2 c 11 + g)
  let D := sH D 6 (D.1 6 + g)
  sH D 8 (D.1 8 + g * S.1 15)
/-- a day: the static side's today, the other side -/
def dayD (S : gB) (D : gB) : gB :=
  let d := S.1 1
  let van := bk S d
  let D := sH D 2 (D.1 2 + van)
  let z := (rnd S).foldl (stD S d) (D, van)
  let z := (rnd S).foldl (stG S d) z
  let D := sH z.1 5 (z.1.1 5 + z.2)
  (List.range (S.1 0)).foldl (stP S) D
def dayS (S : gB) : gB := sH S 1 (S.1 1 + 1)
def daysZ : Nat → gB × gB → gB × gB
  | 0, z => z
  | n + 1, z => daysZ n (dayS z.1, dayD z.1 z.2)
/-- the reference's row of numbers -/
def Mr (a : Nat) (S D : gB) (m : gM) : Prop := (∀ i, i < 48 → (i < 2 ∨ 10 < i) → m (a + i) = i3 (S.1 i)) ∧ (∀ i, 2 ≤ i → i ≤ 10 → m (a + i) = i3 (D.1 i)) ∧ (∀ c, c < 10 → ∀ j, j < 21 → (j < 8 ∨ 13 < j) → m (a + (48 + 21 * c + j)) = i3 (S.2 c j)) ∧ (∀ c, c < 10 → ∀ j, 8 ≤ j → j ≤ 13 → m (a + (48 + 21 * c + j)) = i3 (D.2 c j))
def Fr (a n : Nat) (m m' : gM) : Prop := ∀ x, (x < a ∨ a + n ≤ x) → m' x = m x
theorem Fr.rf {a n : Nat} {m : gM} : Fr a n m m := fun _ _ => rfl
theorem Fr.tr {a n : Nat} {m m1 m2 : gM} (h1 : Fr a n m m1) (h2 : Fr a n m1 m2) : Fr a n m m2 := fun x hx => (h2 x hx).trans (h1 x hx)
theorem Fr.up {a n y : Nat} {m : gM} {v : Int32} (h1 : a ≤ y) (h2 : y < a + n) : Fr a n m (upd m y v) := fun x hx => upd_n (by omega)
theorem Mr.fr {a b n : Nat} {S D : gB} {m m' : gM} (h : Mr a S D m) (hf : Fr b n m m') (hab : a + 258 ≤ b ∨ b + n ≤ a) : Mr a S D m' :=
  ⟨fun i hi hj => by rw [hf _ (by omega)]; exact h.1 i hi hj, fun i hi hj => by rw [hf _ (by omega)]; exact h.2.1 i hi hj, fun c hc j hj hk => by rw [hf _ (by omega)]; exact h.2.2.1 c hc j hj hk, fun c hc j hj hk => by rw [hf _ (by omega)]; exact h.2.2.2 c hc j hj hk⟩
theorem Mr.DH {a i v : Nat} {S D : gB} {m : gM} (h : Mr a S D m) (h1 : 2 ≤ i) (h2 : i ≤ 10) : Mr a S (sH D i v) (upd m (a + i) (i3 v)) := by
  refine ⟨fun k hk hj => by rw [upd_n (by omega)]; exact h.1 k hk hj, fun k hk hj => ?_, fun c hc j hj hk => by rw [upd_n (by omega)]; exact h.2.2.1 c hc j hj hk, fun c hc j hj hk => by rw [upd_n (by omega)]; exact h.2.2.2 c hc j hj hk⟩
  by_cases e : k = i
  · subst e
    rw [upd_s]
    simp [sH, up]
  · rw [upd_n (by omega), h.2.1 k hk hj]
    simp [sH, up, e]
theorem Mr.DC {a c j v : Nat} {S D : gB} {m : gM} (h : Mr a S D m) (hc : c < 10) (h1 : 8 ≤ j) (h2 : j ≤ 13) : Mr a S (sC D c j v) (upd m (a + (48 + 21 * c + j)) (i3 v)) := by
  refine ⟨fun k hk hj => by rw [upd_n (by omega)]; exact h.1 k hk hj, fun k hk hj => by rw [upd_n (by omega)]; exact h.2.1 k hk hj, fun c' hc' j' hj' hk => by rw [upd_n (by omega)]; exact h.2.2.1 c' hc' j' hj' hk, fun c' hc' j' hj' hk => ?_⟩
  by_cases e : c' = c
  · subst e
    by_cases e2 : j' = j
    · subst e2
      rw [upd_s]
      simp [sC, up]
    · rw [upd_n (by omega), h.2.2.2 c' hc' j' hj' hk]
      simp [sC, up, e2]
  · rw [upd_n (by omega), h.2.2.2 c' hc' j' hj' hk]
    simp [sC, up, e]
theorem Mr.SH {a i v : Nat} {S D : gB} {m : gM} (h : Mr a S D m) (h1 : i < 48) (h2 : i < 2 ∨ 10 < i) : Mr a (sH S i v) D (upd m (a + i) (i3 v)) := by
  refine ⟨fun k hk hj => ?_, fun k hk hj => by rw [upd_n (by omega)]; exact h.2.1 k hk hj, fun c hc j hj hk => by rw [upd_n (by omega)]; exact h.2.2.1 c hc j hj hk, fun c hc j hj hk => by rw [upd_n (by omega)]; exact h.2.2.2 c hc j hj hk⟩
  by_cases e : k = i
  · subst e
    rw [upd_s]
    simp [sH, up]
  · rw [upd_n (by omega), h.1 k hk hj]
    simp [sH, up, e]
theorem Mr.SC {a c j v : Nat} {S D : gB} {m : gM} (h : Mr a S D m) (hc : c < 10) (h1 : j < 21) (h2 : j < 8 ∨ 13 < j) : Mr a (sC S c j v) D (upd m (a + (48 + 21 * c + j)) (i3 v)) := by
  refine ⟨fun k hk hj => by rw [upd_n (by omega)]; exact h.1 k hk hj, fun k hk hj => by rw [upd_n (by omega)]; exact h.2.1 k hk hj, fun c' hc' j' hj' hk => ?_, fun c' hc' j' hj' hk => by rw [upd_n (by omega)]; exact h.2.2.2 c' hc' j' hj' hk⟩
  by_cases e : c' = c
  · subst e
    by_cases e2 : j' = j
    · subst e2
      rw [upd_s]
      simp [sC, up]
    · rw [upd_n (by omega), h.2.2.1 c' hc' j' hj' hk]
      simp [sC, up, e2]
  · rw [upd_n (by omega), h.2.2.1 c' hc' j' hj' hk]
    simp [sC, up, e]
/-- what always holds of a book: its static side, and the other -/
def Is (B : Nat) (S : gB) : Prop := S.1 0 ≤ 10 ∧ S.1 1 ≤ B ∧ (S.1 11 ≤ 99 ∧ S.1 12 ≤ 9 ∧ S.1 13 ≤ 9 ∧ S.1 14 ≤ 30 ∧ 1 ≤ S.1 15 ∧ S.1 15 ≤ 20) ∧ (S.1 16 < 4 ∧ S.1 17 < 4 ∧ S.1 18 < 4 ∧ S.1 19 < 4 ∧ S.1 16 ≠ S.1 17 ∧ S.1 16 ≠ S.1 18 ∧ S.1 16 ≠ S.1 19 ∧ S.1 17 ≠ S.1 18 ∧ S.1 17 ≠ S.1 19 ∧ S.1 18 ≠ S.1 19) ∧ (∀ i, i < 28 → S.1 (20 + i) ≤ 1) ∧ (∀ c, c < S.1 0 → S.2 c 0 < 4 ∧ (∀ w, w < 7 → S.2 c (1 + w) ≤ 9) ∧ S.2 c 14 ≤ 3 ∧ (∀ k, k < 3 → k < S.2 c 14 → S.2 c (15 + 2 * k) ≤ 999 ∧ S.2 c (15 + 2 * k + 1) ≤ 999))
def Id (n : Nat) (D : gB) : Prop := (∀ c, c < n → D.2 c 8 ≤ 30) ∧ (D.1 3 = sm (fun c => D.2 c 9) n ∧ D.1 4 = sm (fun c => D.2 c 10) n ∧ D.1 6 = sm (fun c => D.2 c 11) n ∧ D.1 9 = sm (fun c => D.2 c 12) n ∧ D.1 10 = sm (fun c => D.2 c 13) n)
def Iv (B : Nat) (S D : gB) : Prop := Is B S ∧ Id (S.1 0) D
theorem Is.cust {B : Nat} {S : gB} (h : Is B S) {c : Nat} (hc : c < S.1 0) : S.2 c 0 < 4 ∧ (∀ w, w < 7 → S.2 c (1 + w) ≤ 9) ∧ S.2 c 14 ≤ 3 ∧ (∀ k, k < 3 → k < S.2 c 14 → S.2 c (15 + 2 * k) ≤ 999 ∧ S.2 c (15 + 2 * k + 1) ≤ 999) := h.2.2.2.2.2 c hc
theorem Is.ord {B : Nat} {S : gB} (h : Is B S) {p : Nat} (hp : p < 4) : S.1 (16 + p) < 4 := by
  have ho := h.2.2.2.1
  rcases (show p = 0 ∨ p = 1 ∨ p = 2 ∨ p = 3 by omega) with q | q | q | q <;> subst q
  · exact ho.1
  · exact ho.2.1
  · exact ho.2.2.1
  · exact ho.2.2.2.1
theorem du_le {B : Nat} {S : gB} (h : Is B S) {c d : Nat} (hc : c < S.1 0) : du S c d ≤ 9 := by
  unfold du
  split
  · omega
  · exact (h.cust hc).2.1 (d % 7) (by omega)
theorem aldu_le {B : Nat} {S : gB} (h : Is B S) {d : Nat} : aldu S d ≤ 90 := by
  have h1 := sm_le (f := fun c => du S c d) (b := 9) (n := S.1 0) (fun i hi => du_le h hi)
  have h2 := h.1
  unfold aldu
  omega
theorem bk_le {B : Nat} {S : gB} (h : Is B S) {d : Nat} : bk S d ≤ 99 := by
  have h1 := h.2.2.1.1
  unfold bk
  omega
/-! reading the row of numbers -/
theorem m_ofS {a c j : Nat} {S D : gB} {m : gM} (h : Mr a S D m) (hc : c < 10) (hj : j < 21) (hk : j < 8 ∨ 13 < j) : fX6_of a 258 (i3 c) (i3 j) m = some (m, i3 (S.2 c j)) := by
  unfold fX6_of
  simp (disch := omega) only [n48, n21, i3a, i3m, gRdI, h.2.2.1 c hc j hj hk]
theorem m_ofD {a c j : Nat} {S D : gB} {m : gM} (h : Mr a S D m) (hc : c < 10) (hj : 8 ≤ j) (hk : j ≤ 13) : fX6_of a 258 (i3 c) (i3 j) m = some (m, i3 (D.2 c j)) := by
  unfold fX6_of
  simp (disch := omega) only [n48, n21, i3a, i3m, gRdI, h.2.2.2 c hc j hj hk]
theorem m_rS {β : Type} {a i : Nat} {S D : gB} {m : gM} (h : Mr a S D m) (hi : i < 48) (hj : i < 2 ∨ 10 < i) {k : Int32 → Option β} : gRd m a 258 (i3 i) k = k (i3 (S.1 i)) := by
  rw [gRdI (by omega) (by omega), h.1 i hi hj]
theorem m_rD {β : Type} {a i : Nat} {S D : gB} {m : gM} (h : Mr a S D m) (hi : 2 ≤ i) (hj : i ≤ 10) {k : Int32 → Option β} : gRd m a 258 (i3 i) k = k (i3 (D.1 i)) := by
  rw [gRdI (by omega) (by omega), h.2.1 i hi hj]
theorem m_aw {a B c d : Nat} {S D : gB} {m : gM} (h : Mr a S D m) (hI : Is B S) (hc : c < S.1 0) (hd : d < 1000000) : fX6_isAway a 258 (i3 c) (i3 d) m = some (m, bI (aw S c d)) := by
  have hc10 : c < 10 := by have := hI.1; omega
  obtain ⟨-, -, h14, hh⟩ := hI.cust hc
  have L : ∀ (f k : Nat), k ≤ S.2 c 14 → S.2 c 14 - k < f → fX6_isAway_L5 a 258 (i3 c) (i3 d) f (bI (awK (S.2 c) d k)) (i3 k) m = some (m, bI (aw S c d)) := by
    intro f
    induction f with
    | zero => intro k h1 h2; omega
    | succ f ih =>
      intro k h1 h2
      unfold fX6_isAway_L5
      rw [n14, m_ofS h hc10 (by omega) (by omega), gClI, iLe (by omega) (by omega)]
      by_cases hk : S.2 c 14 ≤ k
      · rw [if_pos hk, gRzB]
        have e : k = S.2 c 14 := by omega
        rw [e]
        rfl
      · rw [if_neg hk]
        obtain ⟨q1, q2⟩ := hh k (by omega) (by omega)
        have K := ih (k + 1) (by omega) (by omega)
        simp only [gLtI, n1, i3a, iB0]
        cases hb : awK (S.2 c) d k with
        | true =>
          have e : awK (S.2 c) d (k + 1) = true := by simp [awK, hb]
          rw [e] at K
          simp only [if_true]
          exact K
        | false =>
          have e : awK (S.2 c) d (k + 1) = decide (S.2 c (15 + 2 * k) ≤ d ∧ d ≤ S.2 c (15 + 2 * k + 1)) := by simp [awK, hb]
          rw [e] at K
          simp only [Bool.false_eq_true, if_false]
          rw [n15, n2, i3m, i3a, m_ofS h hc10 (by omega) (by omega), gClI, i3a, m_ofS h hc10 (by omega) (by omega), gClI, m_inJ, gClI, i3t (by omega), i3t (by omega), wiN (by omega), iB0]
          by_cases hd2 : S.2 c (15 + 2 * k) ≤ d ∧ d ≤ S.2 c (15 + 2 * k + 1)
          · rw [decide_eq_true hd2] at K ⊢
            exact K
          · rw [decide_eq_false hd2] at K ⊢
            exact K
  unfold fX6_isAway
  exact L gFU 0 (Nat.zero_le _) (by show S.2 c 14 - 0 < 5000; omega)
theorem m_du {a B c d : Nat} {S D : gB} {m : gM} (h : Mr a S D m) (hI : Is B S) (hc : c < S.1 0) (hd : d < 1000000) : fX6_dueOn a 258 (i3 c) (i3 d) m = some (m, i3 (du S c d)) := by
  have hc10 : c < 10 := by have := hI.1; omega
  unfold fX6_dueOn du
  rw [m_aw h hI hc hd, gClI, iB0, n7, i3r (by omega) (by omega), n1, i3a]
  cases aw S c d with
  | true => simp [n0]
  | false =>
    simp only [if_true, Bool.false_eq_true, if_false]
    rw [m_ofS h hc10 (by omega) (by omega), gClI]
theorem m_aldu {a B d : Nat} {S D : gB} {m : gM} (h : Mr a S D m) (hI : Is B S) (hd : d < 1000000) : fX6_allDue a 258 (i3 d) m = some (m, i3 (aldu S d)) := by
  have hn := hI.1
  have L : ∀ (f k : Nat), k ≤ S.1 0 → S.1 0 - k < f → fX6_allDue_L4 a 258 (i3 d) f (i3 (sm (fun c => du S c d) k)) (i3 k) m = some (m, i3 (aldu S d)) := by
    intro f
    induction f with
    | zero => intro k h1 h2; omega
    | succ f ih =>
      intro k h1 h2
      unfold fX6_allDue_L4
      rw [n0, m_rS h (by omega) (by omega), iLe (by omega) (by omega)]
      by_cases hk : S.1 0 ≤ k
      · rw [if_pos hk]
        have e : k = S.1 0 := by omega
        rw [e]
        rfl
      · rw [if_neg hk, m_du h hI (by omega) hd, gClI]
        simp only [gLtI, i3a, n1]
        exact ih (k + 1) (by omega) (by omega)
  unfold fX6_allDue
  exact L gFU 0 (Nat.zero_le _) (by show S.1 0 - 0 < 5000; omega)
theorem m_op {a B c d : Nat} {S D : gB} {m : gM} (h : Mr a S D m) (hI : Is B S) (hc : c < S.1 0) (hd : d < 1000000) : fX6_isOpen a 258 (i3 c) (i3 d) m = some (m, bI (op S c d)) := by
  have hc10 : c < 10 := by have := hI.1; omega
  obtain ⟨h0, -⟩ := hI.cust hc
  have h1 := hI.2.2.2.2.1 (7 * S.2 c 0 + d % 7) (by omega)
  rw [← Nat.add_assoc] at h1
  unfold fX6_isOpen op
  rw [n0, m_ofS h hc10 (by omega) (by omega), gClI, n20, n7, i3r (by omega) (by omega), i3m, i3a, i3a, m_rS h (by omega) (by omega), iEq (by omega) (by omega), n1]
  by_cases hq : S.1 (20 + 7 * S.2 c 0 + d % 7) = 0
  · rw [if_pos hq, decide_eq_true hq]; rfl
  · rw [if_neg hq, decide_eq_false hq]; rfl
theorem m_cred {a B : Nat} {S D : gB} {m : gM} (h : Mr a S D m) (hI : Is B S) : fX6_credits a 258 m = some (m, i3 (sm (fun c => D.2 c 8) (S.1 0))) := by
  have hn := hI.1
  have L : ∀ (f k : Nat), k ≤ S.1 0 → S.1 0 - k < f → fX6_credits_L4 a 258 f (i3 (sm (fun c => D.2 c 8) k)) (i3 k) m = some (m, i3 (sm (fun c => D.2 c 8) (S.1 0))) := by
    intro f
    induction f with
    | zero => intro k h1 h2; omega
    | succ f ih =>
      intro k h1 h2
      unfold fX6_credits_L4
      rw [n0, m_rS h (by omega) (by omega), iLe (by omega) (by omega)]
      by_cases hk : S.1 0 ≤ k
      · rw [if_pos hk]
        have e : k = S.1 0 := by omega
        rw [e]
      · rw [if_neg hk, n8, m_ofD h (by omega) (by omega) (by omega), gClI]
        simp only [gLtI, i3a, n1]
        exact ih (k + 1) (by omega) (by omega)
  unfold fX6_credits
  exact L gFU 0 (Nat.zero_le _) (by show S.1 0 - 0 < 5000; omega)
theorem m_bk {a B d : Nat} {S D : gB} {m : gM} (h : Mr a S D m) (hI : Is B S) (hd : d < 1000000) : fX6_baked a 258 (i3 d) m = some (m, i3 (bk S d)) := by
  have h1 := aldu_le (d := d) hI
  have h2 := hI.2.2.1
  unfold fX6_baked bk
  rw [m_aldu h hI hd, gClI, n12, m_rS h (by omega) (by omega), i3a, gLtI, n11, m_rS h (by omega) (by omega), iLe (by omega) (by omega), m_rS h (by omega) (by omega)]
  by_cases hk : S.1 11 ≤ aldu S d + S.1 12
  · rw [if_pos hk, Nat.min_eq_right hk]
  · rw [if_neg hk, Nat.min_eq_left (by omega)]
