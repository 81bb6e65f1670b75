/-! loaves due by weeks -/
theorem sm_split (f : Nat → Nat) (a : Nat) : ∀ b, sm f (a + b) = sm f a + sm (fun i => f (a + i)) b
  | 0 => rfl
  | b + 1 => by
    show sm f (a + b) + f (a + b) = _
    rw [sm_split f a b]
    show _ = sm f a + (sm (fun i => f (a + i)) b + f (a + b))
    omega
theorem sm_zero {f : Nat → Nat} : ∀ {n : Nat}, (∀ i, i < n → f i = 0) → sm f n = 0
  | 0, _ => rfl
  | n + 1, h => by
    show sm f n + f n = 0
    rw [sm_zero (fun i hi => h i (by omega)), h n (by omega)]
theorem sm_add2 {f g : Nat → Nat} : ∀ n, sm (fun i => f i + g i) n = sm f n + sm g n
  | 0 => rfl
  | n + 1 => by
    show sm (fun i => f i + g i) n + (f n + g n) = (sm f n + f n) + (sm g n + g n)
    rw [sm_add2 n]
    omega
def sI (f : Nat → Nat) (a j : Nat) : Nat := sm (fun i => f (a + i)) j
theorem sI_split (f : Nat → Nat) (a i j : Nat) : sI f a (i + j) = sI f a i + sI f (a + i) j := by
  unfold sI
  rw [sm_split]
  congr 1
  exact sm_congr (fun k _ => by show f (a + (i + k)) = f (a + i + k); rw [Nat.add_assoc])
theorem sI_zero {f : Nat → Nat} {a j : Nat} (h : ∀ d, a ≤ d → d < a + j → f d = 0) : sI f a j = 0 := sm_zero (fun i hi => h _ (by omega) (by omega))
theorem sI_congr {f g : Nat → Nat} {a j : Nat} (h : ∀ d, a ≤ d → d < a + j → f d = g d) : sI f a j = sI g a j := sm_congr (fun i hi => h _ (by omega) (by omega))
theorem sI_win {g : Nat → Nat} {p n f l : Nat} : sI (fun d => if f ≤ d ∧ d ≤ l then g d else 0) p n = sI g (max p f) (min (p + n) (l + 1) - max p f) := by
  by_cases c : max p f ≤ min (p + n) (l + 1)
  · obtain ⟨i, hi⟩ : ∃ i, max p f = p + i := ⟨max p f - p, by omega⟩
    obtain ⟨j, hj⟩ : ∃ j, min (p + n) (l + 1) = p + i + j := ⟨min (p + n) (l + 1) - (p + i), by omega⟩
    obtain ⟨k, hk⟩ : ∃ k, n = i + j + k := ⟨n - (i + j), by omega⟩
    rw [hi, hj, hk, sI_split, sI_split, show p + i + j - (p + i) = j from by omega]
    rw [sI_zero (a := p) (j := i) (fun d h1 h2 => if_neg (by omega)), sI_zero (a := p + (i + j)) (j := k) (fun d h1 h2 => if_neg (by omega))]
    rw [sI_congr (g := g) (fun d h1 h2 => if_pos (by omega))]
    omega
  · rw [show min (p + n) (l + 1) - max p f = 0 from by omega]
    exact sI_zero (fun d h1 h2 => if_neg (by omega))
theorem sI_week (s : Nat → Nat) (a : Nat) : sI (fun d => s (1 + d % 7)) a 7 = sm (fun w => s (1 + w)) 7 := by
  show sm (fun i => s (1 + (a + i) % 7)) 7 = _
  have e : ∀ f : Nat → Nat, sm f 7 = 0 + f 0 + f 1 + f 2 + f 3 + f 4 + f 5 + f 6 := fun _ => rfl
  rw [e, e]
  rcases (show a % 7 = 0 ∨ a % 7 = 1 ∨ a % 7 = 2 ∨ a % 7 = 3 ∨ a % 7 = 4 ∨ a % 7 = 5 ∨ a % 7 = 6 by omega) with r | r | r | r | r | r | r
  · rw [show (a + 0) % 7 = 0 from by omega, show (a + 1) % 7 = 1 from by omega, show (a + 2) % 7 = 2 from by omega, show (a + 3) % 7 = 3 from by omega, show (a + 4) % 7 = 4 from by omega, show (a + 5) % 7 = 5 from by omega, show (a + 6) % 7 = 6 from by omega]
  · rw [show (a + 0) % 7 = 1 from by omega, show (a + 1) % 7 = 2 from by omega, show (a + 2) % 7 = 3 from by omega, show (a + 3) % 7 = 4 from by omega, show (a + 4) % 7 = 5 from by omega, show (a + 5) % 7 = 6 from by omega, show (a + 6) % 7 = 0 from by omega]
    omega
  · rw [show (a + 0) % 7 = 2 from by omega, show (a + 1) % 7 = 3 from by omega, show (a + 2) % 7 = 4 from by omega, show (a + 3) % 7 = 5 from by omega, show (a + 4) % 7 = 6 from by omega, show (a + 5) % 7 = 0 from by omega, show (a + 6) % 7 = 1 from by omega]
    omega
  · rw [show (a + 0) % 7 = 3 from by omega, show (a + 1) % 7 = 4 from by omega, show (a + 2) % 7 = 5 from by omega, show (a + 3) % 7 = 6 from by omega, show (a + 4) % 7 = 0 from by omega, show (a + 5) % 7 = 1 from by omega, show (a + 6) % 7 = 2 from by omega]
    omega
  · rw [show (a + 0) % 7 = 4 from by omega, show (a + 1) % 7 = 5 from by omega, show (a + 2) % 7 = 6 from by omega, show (a + 3) % 7 = 0 from by omega, show (a + 4) % 7 = 1 from by omega, show (a + 5) % 7 = 2 from by omega, show (a + 6) % 7 = 3 from by omega]
    omega
  · rw [show (a + 0) % 7 = 5 from by omega, show (a + 1) % 7 = 6 from by omega, show (a + 2) % 7 = 0 from by omega, show (a + 3) % 7 = 1 from by omega, show (a + 4) % 7 = 2 from by omega, show (a + 5) % 7 = 3 from by omega, show (a + 6) % 7 = 4 from by omega]
    omega
  · rw [show (a + 0) % 7 = 6 from by omega, show (a + 1) % 7 = 0 from by omega, show (a + 2) % 7 = 1 from by omega, show (a + 3) % 7 = 2 from by omega, show (a + 4) % 7 = 3 from by omega, show (a + 5) % 7 = 4 from by omega, show (a + 6) % 7 = 5 from by omega]
    omega
theorem sI_weeks (s : Nat → Nat) (a : Nat) : ∀ k, sI (fun d => s (1 + d % 7)) a (7 * k) = k * sm (fun w => s (1 + w)) 7
  | 0 => by rw [Nat.zero_mul]; rfl
  | k + 1 => by
    rw [show 7 * (k + 1) = 7 * k + 7 from by omega, sI_split, sI_weeks s a k, sI_week, Nat.succ_mul]
def wk (s : Nat → Nat) (d : Nat) : Nat := s (1 + d % 7)
def gD7 (s : Nat → Nat) (k d : Nat) : Nat := if awK s d k = true then 0 else wk s d
def hD7 (s : Nat → Nat) (k d : Nat) : Nat := if awK s d k = true then wk s d else 0
theorem hA_step (s : Nat → Nat) (k d : Nat) : hD7 s (k + 1) d = hD7 s k d + (if s (15 + 2 * k) ≤ d ∧ d ≤ s (15 + 2 * k + 1) then gD7 s k d else 0) := by
  have e : awK s d (k + 1) = (awK s d k || decide (s (15 + 2 * k) ≤ d ∧ d ≤ s (15 + 2 * k + 1))) := rfl
  unfold hD7 gD7
  rw [e]
  by_cases b : awK s d k = true
  · rw [b, Bool.true_or, if_pos rfl, if_pos rfl]
    split <;> rfl
  · have b2 := Bool.eq_false_iff.mpr b
    rw [b2, Bool.false_or]
    by_cases c : s (15 + 2 * k) ≤ d ∧ d ≤ s (15 + 2 * k + 1)
    · rw [decide_eq_true c, if_pos rfl, if_pos c]
      simp
    · rw [decide_eq_false c, if_neg c]
      simp
theorem iPl {α : Type} {x y : α} {a b : Nat} (ha : a < 1000000000) (hb : b < 1000000000) : (if i3 a - 1 < i3 b then x else y) = (if a ≤ b then x else y) := by
  have e : (i3 a - 1 < i3 b) = (a ≤ b) := by
    apply propext
    rw [n1, Int32.lt_iff_toInt_lt, Int32.toInt_sub, i3t (by omega), i3t (by omega), i3t (by omega), Int.bmod_eq_of_le (by omega) (by omega)]
    omega
  simp only [e]
theorem jminP {e l : Nat} (he : e < 1000000) (hl : l < 1000000) : jmin (i3 e - 1) (i3 l) = i3 (min e (l + 1)) - 1 := by
  unfold jmin
  have c : (i3 l < i3 e - 1) = (l + 1 < e) := by
    apply propext
    rw [n1, Int32.lt_iff_toInt_lt, Int32.toInt_sub, i3t (by omega), i3t (by omega), i3t (by omega), Int.bmod_eq_of_le (by omega) (by omega)]
    omega
  simp only [c]
  by_cases q : l + 1 < e
  · rw [if_pos q, Nat.min_eq_right (by omega), n1, i3s (by omega)]
    rfl
  · rw [if_neg q, Nat.min_eq_left (by omega)]
theorem c_oh40 {q E k : Nat} {s t : Nat → Nat} {m : gM} {v1 v2 : Int32} {r5 : Int32 → Int32 → gM → Option (gM × Int32)} (h : Cc q s t m) (hs : Cs s) (hE : E < 100000) (hk : k ≤ s 14) : ∀ (f j v acc : Nat), j = E - v → j < f → v < 100000 → fX1_orderedInHolidays_L40 q v1 v2 (i3 k) (i3 E - 1) r5 f (i3 acc) (i3 v) m = r5 (i3 (acc + sI (gD7 s k) v j)) (i3 (k + 1)) m := by
  intro f
  induction f with
  | zero => intro j v acc h1 h2; omega
  | succ f ih =>
    intro j v acc h1 h2 h3
    unfold fX1_orderedInHolidays_L40
    rw [iPl (by omega) (by omega)]
    by_cases c : E ≤ v
    · rw [if_pos c, gLtI, n1, i3a, show j = 0 from by omega]
      rfl
    · have e1 : sI (gD7 s k) v j = gD7 s k v + sI (gD7 s k) (v + 1) (j - 1) := by
        have := sI_split (gD7 s k) v 1 (j - 1)
        rw [show 1 + (j - 1) = j from by omega] at this
        rw [this]
        congr 1
        show 0 + gD7 s k (v + 0) = _
        rw [Nat.zero_add, Nat.add_zero]
      rw [if_neg c, c_aw h hs (by omega) hk, gClI, gLtI, iB0, c_wd (by omega), gClI, h.rW (by omega), e1, ← Nat.add_assoc]
      unfold gD7
      cases ha : awK s v k with
      | true =>
        rw [if_pos rfl, if_pos rfl]
        dsimp only
        rw [gLtI, n1, i3a]
        exact ih (j - 1) (v + 1) acc (by omega) (by omega) (by omega)
      | false =>
        rw [if_neg (by decide), if_neg (by decide)]
        dsimp only
        rw [i3a, gLtI, gLtI, n1, i3a]
        exact ih (j - 1) (v + 1) (acc + s (1 + v % 7)) (by omega) (by omega) (by omega)
theorem c_oh {q p n : Nat} {s t : Nat → Nat} {m : gM} (h : Cc q s t m) (hs : Cs s) (hp : p ≤ 999) (hn : n ≤ 500) : fX1_orderedInHolidays q (i3 p) (i3 (p + n) - 1) m = some (m, i3 (sI (hD7 s (s 14)) p n)) := by
  obtain ⟨-, -, h14, hh⟩ := id hs
  have L : ∀ (f k : Nat), k ≤ s 14 → s 14 - k < f → fX1_orderedInHolidays_L5 q (i3 p) (i3 (p + n) - 1) f (i3 (sI (hD7 s k) p n)) (i3 k) m = some (m, i3 (sI (hD7 s (s 14)) p n)) := by
    intro f
    induction f with
    | zero => intro k h1 h2; omega
    | succ f ih =>
      intro k h1 h2
      unfold fX1_orderedInHolidays_L5
      rw [h.f7, gLtI, iLe (by omega) (by omega)]
      by_cases c : s 14 ≤ k
      · rw [if_pos c, show k = s 14 from by omega]
      · obtain ⟨b1, b2⟩ := hh k (by omega) (by omega)
        rw [if_neg c, h.rL (by omega) (by omega), jminP (by omega) (by omega), gLtI, h.rF (by omega) (by omega), jmaxI (by omega) (by omega), gLtI]
        rw [c_oh40 h hs (by omega) h1 gFU _ _ _ rfl (by show _ < 5000; omega) (by omega)]
        rw [← sI_win (g := gD7 s k)]
        have e : sI (hD7 s k) p n + sI (fun d => if s (15 + 2 * k) ≤ d ∧ d ≤ s (15 + 2 * k + 1) then gD7 s k d else 0) p n = sI (hD7 s (k + 1)) p n := by
          unfold sI
          rw [← sm_add2]
          exact sm_congr (fun i _ => (hA_step s k (p + i)).symm)
        rw [e]
        exact ih (k + 1) (by omega) (by omega)
  have e0 : sI (hD7 s 0) p n = 0 := sI_zero (fun d _ _ => rfl)
  have := L gFU 0 (by omega) (by show _ < 5000; omega)
  rw [e0] at this
  exact this
theorem c_weeks {q p n : Nat} {s t : Nat → Nat} {m : gM} (h : Cc q s t m) (hs : Cs s) (hp : p ≤ 999) (hn : n ≤ 500) : fX1_dueByWeeks q (i3 p) (i3 n) m = some (m, i3 (sI (duS s) p n)) := by
  have e1 : sI (duS s) p n + sI (hD7 s (s 14)) p n = sI (wk s) p n := by
    unfold sI
    rw [← sm_add2]
    refine sm_congr (fun i _ => ?_)
    show duS s (p + i) + hD7 s (s 14) (p + i) = wk s (p + i)
    unfold duS hD7 wk
    cases awK s (p + i) (s 14) <;> simp
  have L : ∀ (f j k acc : Nat), k + j = n → j < f → fX1_dueByWeeks_L21 q (i3 p) (i3 n) f (i3 (sI (wk s) p k)) (i3 (p + k)) m = some (m, i3 (sI (duS s) p n)) := by
    intro f
    induction f with
    | zero => intro j k acc h1 h2; omega
    | succ f ih =>
      intro j k acc h1 h2
      unfold fX1_dueByWeeks_L21
      rw [i3a, iLe (by omega) (by omega)]
      cases j with
      | zero =>
        rw [if_pos (by omega), c_oh h hs hp hn, gClI, show k = n from by omega, i3s (by omega), show sI (wk s) p n - sI (hD7 s (s 14)) p n = sI (duS s) p n from by omega]
      | succ j =>
        rw [if_neg (by omega), c_wd (by omega), gClI, h.rW (by omega), i3a, gLtI, gLtI, n1, i3a, Nat.add_assoc p k 1]
        exact ih j (k + 1) 0 (by omega) (by omega)
  unfold fX1_dueByWeeks
  have e2 : sI (wk s) p (7 * (n / 7)) = n / 7 * sm (fun w => s (1 + w)) 7 := sI_weeks s p (n / 7)
  have := L gFU (n - 7 * (n / 7)) (7 * (n / 7)) 0 (by omega) (by show _ < 5000; omega)
  rw [e2] at this
  rw [n7, i3d (by omega) (by omega), gLtI, c_week h, gClI, i3m, gLtI, i3m, i3a, gLtI, Nat.mul_comm (n / 7) 7]
  exact this
theorem c_dbd {q p n : Nat} {s t : Nat → Nat} {m : gM} (h : Cc q s t m) (hs : Cs s) (hp : p ≤ 999) (hn : n ≤ 500) : fX1_dueDayByDay q (i3 p) (i3 n) m = some (m, i3 (sI (duS s) p n)) := by
  have L : ∀ (f j k : Nat), k + j = n → j < f → fX1_dueDayByDay_L5 q (i3 p) (i3 n) f (i3 (sI (duS s) p k)) (i3 (p + k)) m = some (m, i3 (sI (duS s) p n)) := by
    intro f
    induction f with
    | zero => intro j k h1 h2; omega
    | succ f ih =>
      intro j k h1 h2
      unfold fX1_dueDayByDay_L5
      rw [i3a, iLe (by omega) (by omega)]
      cases j with
      | zero => rw [if_pos (by omega), show k = n from by omega]
      | succ j =>
        rw [if_neg (by omega), c_du h hs (by omega), gClI, i3a, gLtI, gLtI, n1, i3a, Nat.add_assoc p k 1]
        exact ih j (k + 1) (by omega) (by omega)
  unfold fX1_dueDayByDay
  exact L gFU n 0 (by omega) (by show _ < 5000; omega)