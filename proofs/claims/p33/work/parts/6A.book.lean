/-! the program's book, in naturals -/
theorem i3xor (a b : Nat) : i3 a ^^^ i3 b = i3 (a ^^^ b) := by
  apply Int32.toBitVec_inj.mp
  unfold i3
  simp [Int32.toBitVec_xor, BitVec.ofNat_xor]
theorem i3pos {a : Nat} (ha : a < 2147483648) : 0 ≤ i3 a := by
  rw [n0, i3le (by omega) ha]
  omega
theorem gRzI {β : Type} {ty : FieldType} {x : Int32} {k : Option β} (h : vp_nar ty x = x) : gRz ty x k = k := by
  unfold gRz
  rw [if_pos h]
theorem c_wd {d : Nat} (hd : d < 2147483648) (m : gM) : fX5_weekdayOf (i3 d) m = some (m, i3 (d % 7)) := by
  unfold fX5_weekdayOf
  rw [n7, i3r hd (by omega)]
def Cc (q : Nat) (s d : Nat → Nat) (m : gM) : Prop := m (q + 0) = i3 (s 0) ∧ (∀ i, i < 6 → m (q + (1 + i)) = i3 (d (8 + i))) ∧ m (q + 7) = i3 (s 14) ∧ (∀ w, w < 7 → m (q + 11 + w) = i3 (s (1 + w))) ∧ (∀ k, k < 3 → k < s 14 → m (q + 18 + k) = i3 (s (15 + 2 * k)) ∧ m (q + 21 + k) = i3 (s (15 + 2 * k + 1)))
section CC
variable {q : Nat} {s d : Nat → Nat} {m : gM}
theorem Cc.f0 (h : Cc q s d m) : m (q + 0) = i3 (s 0) := h.1
theorem Cc.f1 (h : Cc q s d m) : m (q + 1) = i3 (d 8) := h.2.1 0 (by omega)
theorem Cc.f2 (h : Cc q s d m) : m (q + 2) = i3 (d 9) := h.2.1 1 (by omega)
theorem Cc.f3 (h : Cc q s d m) : m (q + 3) = i3 (d 10) := h.2.1 2 (by omega)
theorem Cc.f4 (h : Cc q s d m) : m (q + 4) = i3 (d 11) := h.2.1 3 (by omega)
theorem Cc.f5 (h : Cc q s d m) : m (q + 5) = i3 (d 12) := h.2.1 4 (by omega)
theorem Cc.f6 (h : Cc q s d m) : m (q + 6) = i3 (d 13) := h.2.1 5 (by omega)
theorem Cc.f7 (h : Cc q s d m) : m (q + 7) = i3 (s 14) := h.2.2.1
theorem Cc.w (h : Cc q s d m) {w : Nat} (hw : w < 7) : m (q + 11 + w) = i3 (s (1 + w)) := h.2.2.2.1 w hw
theorem Cc.rW {β : Type} (h : Cc q s d m) {w : Nat} (hw : w < 7) {k : Int32 → Option β} : gRd m (q + 11) 7 (i3 w) k = k (i3 (s (1 + w))) := by
  rw [gRdI hw (by omega), h.w hw]
theorem Cc.rF {β : Type} (h : Cc q s d m) {i : Nat} (hi : i < 3) (hj : i < s 14) {k : Int32 → Option β} : gRd m (q + 18) 3 (i3 i) k = k (i3 (s (15 + 2 * i))) := by
  rw [gRdI hi (by omega), (h.2.2.2.2 i hi hj).1]
theorem Cc.rL {β : Type} (h : Cc q s d m) {i : Nat} (hi : i < 3) (hj : i < s 14) {k : Int32 → Option β} : gRd m (q + 21) 3 (i3 i) k = k (i3 (s (15 + 2 * i + 1))) := by
  rw [gRdI hi (by omega), (h.2.2.2.2 i hi hj).2]
theorem Cc.fr {a n : Nat} {m' : gM} (h : Cc q s d m) (hf : Fr a n m m') (ha : q + 24 ≤ a ∨ a + n ≤ q) : Cc q s d m' :=
  ⟨by rw [hf _ (by omega)]; exact h.1, fun i hi => by rw [hf _ (by omega)]; exact h.2.1 i hi, by rw [hf _ (by omega)]; exact h.2.2.1, fun w hw => by rw [hf _ (by omega)]; exact h.2.2.2.1 w hw, fun k hk hj => ⟨by rw [hf _ (by omega)]; exact (h.2.2.2.2 k hk hj).1, by rw [hf _ (by omega)]; exact (h.2.2.2.2 k hk hj).2⟩⟩
theorem Cc.D (h : Cc q s d m) {i v : Nat} (hi : i < 6) : Cc q s (up d (8 + i) v) (upd m (q + (1 + i)) (i3 v)) := by
  refine ⟨by rw [upd_n (by omega)]; exact h.1, fun k hk => ?_, by rw [upd_n (by omega)]; exact h.2.2.1, fun w hw => by rw [upd_n (by omega)]; exact h.2.2.2.1 w hw, fun k hk hj => ⟨by rw [upd_n (by omega)]; exact (h.2.2.2.2 k hk hj).1, by rw [upd_n (by omega)]; exact (h.2.2.2.2 k hk hj).2⟩⟩
  by_cases e : k = i
  · subst e
    rw [upd_s, up_s]
  · rw [upd_n (by omega), up_n (by omega)]
    exact h.2.1 k hk
end CC
/-- what a customer's fields keep to -/
def Cs (s : Nat → Nat) : Prop := s 0 < 4 ∧ (∀ w, w < 7 → s (1 + w) ≤ 9) ∧ s 14 ≤ 3 ∧ (∀ k, k < 3 → k < s 14 → s (15 + 2 * k) ≤ 999 ∧ s (15 + 2 * k + 1) ≤ 999)
theorem awK_mono {t : Nat → Nat} {d k : Nat} (h : awK t d k = true) : ∀ n, k ≤ n → awK t d n = true := by
  intro n hn
  induction n with
  | zero =>
    have e : k = 0 := by omega
    subst e
    exact h
  | succ n ih =>
    by_cases e : k = n + 1
    · subst e
      exact h
    · simp [awK, ih (by omega)]
theorem c_aw {q : Nat} {s t : Nat → Nat} {m : gM} (h : Cc q s t m) (hs : Cs s) {d n : Nat} (hd : d < 1000000) (hn : n ≤ s 14) : fX1_isInFirstHolidays q (i3 d) (i3 n) m = some (m, bI (awK s d n)) := by
  obtain ⟨-, -, h14, hh⟩ := hs
  have L : ∀ (f k : Nat), k ≤ n → n - k < f → awK s d k = false → fX1_isInFirstHolidays_L2 q (i3 d) (i3 n) f (i3 k) m = some (m, bI (awK s d n)) := by
    intro f
    induction f with
    | zero => intro k h1 h2; omega
    | succ f ih =>
      intro k h1 h2 hk
      unfold fX1_isInFirstHolidays_L2
      rw [iLe (by omega) (by omega)]
      by_cases e : n ≤ k
      · have e1 : k = n := by omega
        subst e1
        rw [if_pos e, hk]
        rfl
      · rw [if_neg e]
        obtain ⟨b1, b2⟩ := hh k (by omega) (by omega)
        rw [h.rF (by omega) (by omega), iLt (by omega) (by omega)]
        by_cases c1 : d < s (15 + 2 * k)
        · rw [if_pos c1, gLtI, n1, i3a]
          refine ih (k + 1) (by omega) (by omega) ?_
          simp only [awK, hk, Bool.false_or, decide_eq_false_iff_not]
          omega
        · rw [if_neg c1, h.rL (by omega) (by omega), iLt (by omega) (by omega)]
          by_cases c2 : s (15 + 2 * k + 1) < d
          · rw [if_pos c2, gLtI, n1, i3a]
            refine ih (k + 1) (by omega) (by omega) ?_
            simp only [awK, hk, Bool.false_or, decide_eq_false_iff_not]
            omega
          · rw [if_neg c2]
            have t1 : awK s d (k + 1) = true := by
              simp only [awK, hk, Bool.false_or, decide_eq_true_eq]
              omega
            rw [awK_mono t1 n (by omega)]
            rfl
  unfold fX1_isInFirstHolidays
  exact L gFU 0 (Nat.zero_le _) (by show n - 0 < 5000; omega) rfl
def duS (s : Nat → Nat) (d : Nat) : Nat := if awK s d (s 14) then 0 else s (1 + d % 7)
theorem c_du {q : Nat} {s t : Nat → Nat} {m : gM} (h : Cc q s t m) (hs : Cs s) {d : Nat} (hd : d < 1000000) : fX1_dueOn q (i3 d) m = some (m, i3 (duS s d)) := by
  unfold fX1_dueOn duS
  rw [h.f7, gLtI, c_aw h hs hd (Nat.le_refl _), gClI, iB0]
  cases awK s d (s 14) with
  | true => rfl
  | false =>
    simp only [Bool.false_eq_true, if_false]
    rw [c_wd (by omega), gClI, h.rW (by omega)]
def Cx (b : Nat) (S D : gB) (hh : Nat) (m : gM) : Prop := (m (b + 0) = i3 (S.1 0) ∧ m (b + 1) = i3 (S.1 1) ∧ m (b + 2) = i3 hh ∧ m (b + 3) = i3 (D.1 5) ∧ m (b + 4) = i3 (D.1 7) ∧ m (b + 5) = i3 (D.1 8)) ∧ (∀ i, i < 28 → m (b + 21 + i) = i3 (S.1 (20 + i))) ∧ (∀ i, i < 4 → m (b + 49 + i) = i3 (S.1 (16 + i))) ∧ (∀ i, i < 5 → m (b + 53 + i) = i3 (S.1 (11 + i))) ∧ ∀ c, c < S.1 0 → Cc (b + 11 + 57 + 24 * c) (S.2 c) (D.2 c) m
section CX
variable {b : Nat} {S D : gB} {hh : Nat} {m : gM}
theorem Cx.h0 (h : Cx b S D hh m) : m (b + 0) = i3 (S.1 0) := h.1.1
theorem Cx.h1 (h : Cx b S D hh m) : m (b + 1) = i3 (S.1 1) := h.1.2.1
theorem Cx.h2 (h : Cx b S D hh m) : m (b + 2) = i3 hh := h.1.2.2.1
theorem Cx.h3 (h : Cx b S D hh m) : m (b + 3) = i3 (D.1 5) := h.1.2.2.2.1
theorem Cx.h4 (h : Cx b S D hh m) : m (b + 4) = i3 (D.1 7) := h.1.2.2.2.2.1
theorem Cx.h5 (h : Cx b S D hh m) : m (b + 5) = i3 (D.1 8) := h.1.2.2.2.2.2
theorem Cx.c (h : Cx b S D hh m) {c : Nat} (hc : c < S.1 0) : Cc (b + 11 + 57 + 24 * c) (S.2 c) (D.2 c) m := h.2.2.2.2 c hc
theorem Cx.rS {β : Type} (h : Cx b S D hh m) {i : Nat} (hi : i < 5) {k : Int32 → Option β} : gRd m (b + 53) 5 (i3 i) k = k (i3 (S.1 (11 + i))) := by
  rw [gRdI hi (by omega), h.2.2.2.1 i hi]
theorem Cx.rO {β : Type} (h : Cx b S D hh m) {i : Nat} (hi : i < 4) {k : Int32 → Option β} : gRd m (b + 49) 4 (i3 i) k = k (i3 (S.1 (16 + i))) := by
  rw [gRdI hi (by omega), h.2.2.1 i hi]
theorem Cx.rC {β : Type} (h : Cx b S D hh m) {i : Nat} (hi : i < 28) {k : Int32 → Option β} : gRd m (b + 21) 28 (i3 i) k = k (i3 (S.1 (20 + i))) := by
  rw [gRdI hi (by omega), h.2.1 i hi]
theorem Cx.fr {a n : Nat} {m' : gM} (h : Cx b S D hh m) (hn : S.1 0 ≤ 10) (hf : Fr a n m m') (ha : b + 308 ≤ a ∨ a + n ≤ b) : Cx b S D hh m' :=
  ⟨⟨by rw [hf _ (by omega)]; exact h.h0, by rw [hf _ (by omega)]; exact h.h1, by rw [hf _ (by omega)]; exact h.h2, by rw [hf _ (by omega)]; exact h.h3, by rw [hf _ (by omega)]; exact h.h4, by rw [hf _ (by omega)]; exact h.h5⟩, fun i hi => by rw [hf _ (by omega)]; exact h.2.1 i hi, fun i hi => by rw [hf _ (by omega)]; exact h.2.2.1 i hi, fun i hi => by rw [hf _ (by omega)]; exact h.2.2.2.1 i hi, fun c hc => (h.c hc).fr hf (by omega)⟩
theorem Cx.DC (h : Cx b S D hh m) {c i v : Nat} (hc : c < S.1 0) (hi : i < 6) : Cx b S (sC D c (8 + i) v) hh (upd m (b + 11 + 57 + 24 * c + (1 + i)) (i3 v)) := by
  refine ⟨⟨by rw [upd_n (by omega)]; exact h.h0, by rw [upd_n (by omega)]; exact h.h1, by rw [upd_n (by omega)]; exact h.h2, by rw [upd_n (by omega)]; exact h.h3, by rw [upd_n (by omega)]; exact h.h4, by rw [upd_n (by omega)]; exact h.h5⟩, fun i hi => by rw [upd_n (by omega)]; exact h.2.1 i hi, fun i hi => by rw [upd_n (by omega)]; exact h.2.2.1 i hi, fun i hi => by rw [upd_n (by omega)]; exact h.2.2.2.1 i hi, fun c' hc' => ?_⟩
  by_cases e : c' = c
  · subst e
    have e2 : (sC D c' (8 + i) v).2 c' = up (D.2 c') (8 + i) v := by simp [sC, up]
    rw [e2]
    exact (h.c hc).D hi
  · have e2 : (sC D c (8 + i) v).2 c' = D.2 c' := by simp [sC, up, e]
    rw [e2]
    exact (h.c hc').fr (a := b + 11 + 57 + 24 * c) (n := 24) (Fr.up (by omega) (by omega)) (by omega)
theorem Cx.DH (h : Cx b S D hh m) {i v : Nat} (h5 : i ≠ 5) (h7 : i ≠ 7) (h8 : i ≠ 8) : Cx b S (sH D i v) hh m := by
  refine ⟨⟨h.h0, h.h1, h.h2, ?_, ?_, ?_⟩, h.2.1, h.2.2.1, h.2.2.2.1, h.2.2.2.2⟩
  · rw [h.h3]; simp [sH, up, Ne.symm h5]
  · rw [h.h4]; simp [sH, up, Ne.symm h7]
  · rw [h.h5]; simp [sH, up, Ne.symm h8]
theorem Cx.D5 (h : Cx b S D hh m) {v : Nat} : Cx b S (sH D 5 v) hh (upd m (b + 3) (i3 v)) := by
  refine ⟨⟨by rw [upd_n (by omega)]; exact h.h0, by rw [upd_n (by omega)]; exact h.h1, by rw [upd_n (by omega)]; exact h.h2, ?_, by rw [upd_n (by omega)]; exact h.h4, by rw [upd_n (by omega)]; exact h.h5⟩, fun i hi => by rw [upd_n (by omega)]; exact h.2.1 i hi, fun i hi => by rw [upd_n (by omega)]; exact h.2.2.1 i hi, fun i hi => by rw [upd_n (by omega)]; exact h.2.2.2.1 i hi, fun c' hc' => (h.c hc').fr (a := b) (n := 11) (Fr.up (by omega) (by omega)) (by omega)⟩
  rw [upd_s]; simp [sH, up]
theorem Cx.D7 (h : Cx b S D hh m) {v : Nat} : Cx b S (sH D 7 v) hh (upd m (b + 4) (i3 v)) := by
  refine ⟨⟨by rw [upd_n (by omega)]; exact h.h0, by rw [upd_n (by omega)]; exact h.h1, by rw [upd_n (by omega)]; exact h.h2, by rw [upd_n (by omega)]; exact h.h3, ?_, by rw [upd_n (by omega)]; exact h.h5⟩, fun i hi => by rw [upd_n (by omega)]; exact h.2.1 i hi, fun i hi => by rw [upd_n (by omega)]; exact h.2.2.1 i hi, fun i hi => by rw [upd_n (by omega)]; exact h.2.2.2.1 i hi, fun c' hc' => (h.c hc').fr (a := b) (n := 11) (Fr.up (by omega) (by omega)) (by omega)⟩
  rw [upd_s]; simp [sH, up]
theorem Cx.D8 (h : Cx b S D hh m) {v : Nat} : Cx b S (sH D 8 v) hh (upd m (b + 5) (i3 v)) := by
  refine ⟨⟨by rw [upd_n (by omega)]; exact h.h0, by rw [upd_n (by omega)]; exact h.h1, by rw [upd_n (by omega)]; exact h.h2, by rw [upd_n (by omega)]; exact h.h3, by rw [upd_n (by omega)]; exact h.h4, ?_⟩, fun i hi => by rw [upd_n (by omega)]; exact h.2.1 i hi, fun i hi => by rw [upd_n (by omega)]; exact h.2.2.1 i hi, fun i hi => by rw [upd_n (by omega)]; exact h.2.2.2.1 i hi, fun c' hc' => (h.c hc').fr (a := b) (n := 11) (Fr.up (by omega) (by omega)) (by omega)⟩
  rw [upd_s]; simp [sH, up]
theorem Cx.H2 (h : Cx b S D hh m) {v : Nat} : Cx b S D v (upd m (b + 2) (i3 v)) := by
  refine ⟨⟨by rw [upd_n (by omega)]; exact h.h0, by rw [upd_n (by omega)]; exact h.h1, by rw [upd_s], by rw [upd_n (by omega)]; exact h.h3, by rw [upd_n (by omega)]; exact h.h4, by rw [upd_n (by omega)]; exact h.h5⟩, fun i hi => by rw [upd_n (by omega)]; exact h.2.1 i hi, fun i hi => by rw [upd_n (by omega)]; exact h.2.2.1 i hi, fun i hi => by rw [upd_n (by omega)]; exact h.2.2.2.1 i hi, fun c' hc' => (h.c hc').fr (a := b) (n := 11) (Fr.up (by omega) (by omega)) (by omega)⟩
theorem Cx.S1 (h : Cx b S D hh m) {v : Nat} : Cx b (sH S 1 v) D hh (upd m (b + 1) (i3 v)) := by
  refine ⟨⟨by rw [upd_n (by omega), h.h0]; simp [sH, up], by rw [upd_s]; simp [sH, up], by rw [upd_n (by omega)]; exact h.h2, by rw [upd_n (by omega)]; exact h.h3, by rw [upd_n (by omega)]; exact h.h4, by rw [upd_n (by omega)]; exact h.h5⟩, fun i hi => ?_, fun i hi => ?_, fun i hi => ?_, fun c' hc' => (h.c (by simpa [sH, up] using hc')).fr (a := b) (n := 11) (Fr.up (by omega) (by omega)) (by omega)⟩
  · rw [upd_n (by omega), h.2.1 i hi]
    show _ = i3 (up S.1 1 v (20 + i))
    rw [up_n (by omega)]
  · rw [upd_n (by omega), h.2.2.1 i hi]
    show _ = i3 (up S.1 1 v (16 + i))
    rw [up_n (by omega)]
  · rw [upd_n (by omega), h.2.2.2.1 i hi]
    show _ = i3 (up S.1 1 v (11 + i))
    rw [up_n (by omega)]
theorem gEl10 {β : Type} {c : Nat} {k : Nat → Option β} (hc : c < 10) : gEl 10 (i3 c) k = k c := gElI hc (by omega)
theorem c_shut (h : Cx b S D hh m) {B : Nat} (hI : Is B S) {st w : Nat} (hs : st < 4) (hw : w < 7) : fX0_isShut b (i3 st) (i3 w) m = some (m, i3 (S.1 (20 + 7 * st + w))) := by
  have h1 := hI.2.2.2.2.1 (7 * st + w) (by omega)
  unfold fX0_isShut
  rw [n7, i3m, i3a, h.rC (by omega), Nat.mul_comm st 7, ← Nat.add_assoc]
  rw [← Nat.add_assoc] at h1
  generalize S.1 (20 + 7 * st + w) = v at h1 ⊢
  rcases (show v = 0 ∨ v = 1 by omega) with q | q <;> subst q <;> rfl
theorem c_all (h : Cx b S D hh m) {B : Nat} (hI : Is B S) (hd : S.1 1 < 1000000) : fX0_dueToAll b m = some (m, i3 (aldu S (S.1 1))) := by
  have hn := hI.1
  have L : ∀ (f k : Nat), k ≤ S.1 0 → S.1 0 - k < f → fX0_dueToAll_L4 b f (i3 (sm (fun c => du S c (S.1 1)) k)) (i3 k) m = some (m, i3 (aldu S (S.1 1))) := by
    intro f
    induction f with
    | zero => intro k h1 h2; omega
    | succ f ih =>
      intro k h1 h2
      unfold fX0_dueToAll_L4
      rw [h.h0, gLtI, iLe (by omega) (by omega)]
      by_cases hk : S.1 0 ≤ k
      · rw [if_pos hk]
        have e : k = S.1 0 := by omega
        rw [e]
        rfl
      · have hc : k < S.1 0 := by omega
        rw [if_neg hk, gEl10 (by omega), h.h1, gLtI, c_du (h.c hc) (hI.cust hc) hd, gClI]
        simp only [gLtI, i3a, n1]
        exact ih (k + 1) (by omega) (by omega)
  unfold fX0_dueToAll
  exact L gFU 0 (Nat.zero_le _) (by show S.1 0 - 0 < 5000; omega)
theorem c_lf (h : Cx b S D hh m) {B : Nat} (hI : Is B S) {a : Nat} (ha : a < 1000) : fX0_loavesFor b (i3 a) m = some (m, i3 (min (a + S.1 12) (S.1 11))) := by
  have h1 := hI.2.2.1
  unfold fX0_loavesFor jmin
  rw [n1, h.rS (by omega), n0, h.rS (by omega), show 11 + 0 = 11 from rfl, show 11 + 1 = 12 from rfl, i3a, iLt (by omega) (by omega), gLtI]
  by_cases q : S.1 11 < a + S.1 12
  · rw [if_pos q, Nat.min_eq_right (Nat.le_of_lt q)]
  · rw [if_neg q, Nat.min_eq_left (by omega)]
theorem c_reach (h : Cx b S D hh m) {B : Nat} (hI : Is B S) {c : Nat} (hc : c < S.1 0) (hd : S.1 1 < 1000000) : fX0_isReached b (b + 11 + 57 + 24 * c) m = some (m, bI (op S c (S.1 1))) := by
  unfold fX0_isReached op
  have h1 := (hI.cust hc).1
  have h2 := hI.2.2.2.2.1 (7 * S.2 c 0 + S.1 1 % 7) (by omega)
  rw [← Nat.add_assoc] at h2
  rw [(h.c hc).f0, gLtI, h.h1, gLtI, c_wd (by omega), gClI, c_shut h hI h1 (by omega), gClI, n0, iEq (by omega) (by omega)]
  by_cases q : S.1 (20 + 7 * S.2 c 0 + S.1 1 % 7) = 0
  · rw [if_pos q, decide_eq_true q]; rfl
  · rw [if_neg q, decide_eq_false q]; rfl
end CX
