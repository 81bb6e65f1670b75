/-! the book in naturals: a static side S and a side D that a day's round writes -/
abbrev gB : Type := (Nat → Nat) × (Nat → Nat → Nat)
def up {α : Type} (f : Nat → α) (i : Nat) (v : α) : Nat → α := fun j => if j = i then v else f j
theorem up_s {α : Type} {f : Nat → α} {i : Nat} {v : α} : up f i v i = v := by simp [up]
theorem up_n {α : Type} {f : Nat → α} {i j : Nat} {v : α} (h : j ≠ i) : up f i v j = f j := by simp [up, h]
def sH (s : gB) (i v : Nat) : gB := (up s.1 i v, s.2)
def sC (s : gB) (c j v : Nat) : gB := (s.1, up s.2 c (up (s.2 c) j v))
def awK (t : Nat → Nat) (d : Nat) : Nat → Bool
  | 0 => false
  | k + 1 => awK t d k || decide (t (15 + 2 * k) ≤ d ∧ d ≤ t (15 + 2 * k + 1))
def aw (S : gB) (c d : Nat) : Bool := awK (S.2 c) d (S.2 c 14)
def du (S : gB) (c d : Nat) : Nat := if aw S c d then 0 else S.2 c (1 + d % 7)
def aldu (S : gB) (d : Nat) : Nat := sm (fun c => du S c d) (S.1 0)
def op (S : gB) (c d : Nat) : Bool := decide (S.1 (20 + 7 * S.2 c 0 + d % 7) = 0)
def bk (S : gB) (d : Nat) : Nat := min (aldu S d + S.1 12) (S.1 11)
def lst (S : gB) (p : Nat) : Nat → Nat → List Nat
  | _, 0 => []
  | c, j + 1 => if S.2 c 0 = S.1 (16 + p) then c :: lst S p (c + 1) j else lst S p (c + 1) j
def rndF (S : gB) : Nat → Nat → List Nat
  | _, 0 => []
  | p, q + 1 => lst S p 0 (S.1 0) ++ rndF S (p + 1) q
def rnd (S : gB) : List Nat := rndF S 0 4
def stD (S : gB) (d : Nat) (z : gB × Nat) (c : Nat) : gB × Nat :=
  let due := du S c d
  let g := if op S c d then min due z.2 else 0
  let mi := if 0 < due ∧ g = 0 then 1 else 0
  let la := if 0 < g ∧ g < due then 1 else 0
  let D := z.1
  let D := sH D 7 (D.1 7 + due * S.1 15)
  let D := sH D 3 (D.1 3 + g)
  let D := sC D c 9 (D.2 c 9 + g)
  let D := sC D c 8 (D.2 c 8 + (due - g))
  let D := sH D 9 (D.1 9 + mi)
  let D := sH D 10 (D.1 10 + la)
  let D := sC D c 12 (D.2 c 12 + mi)
  let D := sC D c 13 (D.2 c 13 + la)
  (D, z.2 - g)
def stG (S : gB) (d : Nat) (z : gB × Nat) (c : Nat) : gB × Nat :=
  let g := if op S c d && !aw S c d then min (min (z.1.2 c 8) (S.1 13)) z.2 else 0
  let D := z.1
  let D := sH D 4 (D.1 4 + g)
  let D := sC D c 10 (D.2 c 10 + g)
  let D := sC D c 8 (D.2 c 8 - g)
  (D, z.2 - g)
def stP (S : gB) (D : gB) (c : Nat) : gB :=
  let g := D.2 c 8 - S.1 14
  let D := sC D c 8 (D.2 c 8 - g)
  let D := sC D c 11 (D.2 c 11 + g)
  let D := sH D 6 (D.1 6 + g)
  sH D 8 (D.1 8 + g * S.1 15)
/-- a day: the static side's today, the other side -/
def dayD (S : gB) (D : gB) : gB :=
  let d := S.1 1
  let van := bk S d
  let D := sH D 2 (D.1 2 + van)
  let z := (rnd S).foldl (stD S d) (D, van)
  let z := (rnd S).foldl (stG S d) z
  let D := sH z.1 5 (z.1.1 5 + z.2)
  (List.range (S.1 0)).foldl (stP S) D
def dayS (S : gB) : gB := sH S 1 (S.1 1 + 1)
def daysZ : Nat → gB × gB → gB × gB
  | 0, z => z
  | n + 1, z => daysZ n (dayS z.1, dayD z.1 z.2)
def Fr (a n : Nat) (m m' : gM) : Prop := ∀ x, (x < a ∨ a + n ≤ x) → m' x = m x
theorem Fr.rf {a n : Nat} {m : gM} : Fr a n m m := fun _ _ => rfl
theorem Fr.tr {a n : Nat} {m m1 m2 : gM} (h1 : Fr a n m m1) (h2 : Fr a n m1 m2) : Fr a n m m2 := fun x hx => (h2 x hx).trans (h1 x hx)
theorem Fr.up {a n y : Nat} {m : gM} {v : Int32} (h1 : a ≤ y) (h2 : y < a + n) : Fr a n m (upd m y v) := fun x hx => upd_n (by omega)
/-- what always holds of a book: its static side, and the other -/
def Is (B : Nat) (S : gB) : Prop := S.1 0 ≤ 10 ∧ S.1 1 ≤ B ∧ (S.1 11 ≤ 99 ∧ S.1 12 ≤ 9 ∧ S.1 13 ≤ 9 ∧ S.1 14 ≤ 30 ∧ 1 ≤ S.1 15 ∧ S.1 15 ≤ 20) ∧ (S.1 16 < 4 ∧ S.1 17 < 4 ∧ S.1 18 < 4 ∧ S.1 19 < 4 ∧ S.1 16 ≠ S.1 17 ∧ S.1 16 ≠ S.1 18 ∧ S.1 16 ≠ S.1 19 ∧ S.1 17 ≠ S.1 18 ∧ S.1 17 ≠ S.1 19 ∧ S.1 18 ≠ S.1 19) ∧ (∀ i, i < 28 → S.1 (20 + i) ≤ 1) ∧ (∀ c, c < S.1 0 → S.2 c 0 < 4 ∧ (∀ w, w < 7 → S.2 c (1 + w) ≤ 9) ∧ S.2 c 14 ≤ 3 ∧ (∀ k, k < 3 → k < S.2 c 14 → S.2 c (15 + 2 * k) ≤ 999 ∧ S.2 c (15 + 2 * k + 1) ≤ 999))
def Id (n : Nat) (D : gB) : Prop := (∀ c, c < n → D.2 c 8 ≤ 30) ∧ (D.1 3 = sm (fun c => D.2 c 9) n ∧ D.1 4 = sm (fun c => D.2 c 10) n ∧ D.1 6 = sm (fun c => D.2 c 11) n ∧ D.1 9 = sm (fun c => D.2 c 12) n ∧ D.1 10 = sm (fun c => D.2 c 13) n)
def Iv (B : Nat) (S D : gB) : Prop := Is B S ∧ Id (S.1 0) D
theorem Is.cust {B : Nat} {S : gB} (h : Is B S) {c : Nat} (hc : c < S.1 0) : S.2 c 0 < 4 ∧ (∀ w, w < 7 → S.2 c (1 + w) ≤ 9) ∧ S.2 c 14 ≤ 3 ∧ (∀ k, k < 3 → k < S.2 c 14 → S.2 c (15 + 2 * k) ≤ 999 ∧ S.2 c (15 + 2 * k + 1) ≤ 999) := h.2.2.2.2.2 c hc
theorem Is.ord {B : Nat} {S : gB} (h : Is B S) {p : Nat} (hp : p < 4) : S.1 (16 + p) < 4 := by
  have ho := h.2.2.2.1
  rcases (show p = 0 ∨ p = 1 ∨ p = 2 ∨ p = 3 by omega) with q | q | q | q <;> subst q
  · exact ho.1
  · exact ho.2.1
  · exact ho.2.2.1
  · exact ho.2.2.2.1
theorem du_le {B : Nat} {S : gB} (h : Is B S) {c d : Nat} (hc : c < S.1 0) : du S c d ≤ 9 := by
  unfold du
  split
  · omega
  · exact (h.cust hc).2.1 (d % 7) (by omega)
theorem aldu_le {B : Nat} {S : gB} (h : Is B S) {d : Nat} : aldu S d ≤ 90 := by
  have h1 := sm_le (f := fun c => du S c d) (b := 9) (n := S.1 0) (fun i hi => du_le h hi)
  have h2 := h.1
  unfold aldu
  omega
theorem bk_le {B : Nat} {S : gB} (h : Is B S) {d : Nat} : bk S d ≤ 99 := by
  have h1 := h.2.2.1.1
  unfold bk
  omega
/-! reading the row of numbers -/