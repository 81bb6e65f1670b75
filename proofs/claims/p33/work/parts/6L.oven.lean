def opdu (S : gB) (d : Nat) : Nat := sm (fun c => if op S c d = true then du S c d else 0) (S.1 0)
theorem opdu_le {B : Nat} {S : gB} (h : Is B S) {d k : Nat} (hk : k ≤ S.1 0) : sm (fun c => if op S c d = true then du S c d else 0) k ≤ 90 := by
  have h1 := sm_le (f := fun c => if op S c d = true then du S c d else 0) (b := 9) (n := k) (fun i hi => by
    have := du_le (d := d) h (c := i) (by omega)
    show (if op S i d = true then du S i d else 0) ≤ 9
    split <;> omega)
  have h2 := h.1
  omega
theorem c_dios {b B hh d : Nat} {S D : gB} {m : gM} (h : Cx b S D hh m) (hI : Is B S) (hd : d < 1000000) : fX0_dueInOpenStreets b (i3 d) m = some (m, i3 (opdu S d)) := by
  have hn := hI.1
  have L : ∀ (f k : Nat), k ≤ S.1 0 → S.1 0 - k < f → fX0_dueInOpenStreets_L4 b (i3 d) f (i3 (sm (fun c => if op S c d = true then du S c d else 0) k)) (i3 k) m = some (m, i3 (opdu S d)) := by
    intro f
    induction f with
    | zero => intro k h1 h2; omega
    | succ f ih =>
      intro k h1 h2
      unfold fX0_dueInOpenStreets_L4
      rw [h.h0, gLtI, iLe (by omega) (by omega)]
      by_cases hk : S.1 0 ≤ k
      · have e : k = S.1 0 := by omega
        rw [if_pos hk, e]
        rfl
      · have hc : k < S.1 0 := by omega
        have hs := (hI.cust hc).1
        have h4 := hI.2.2.2.2.1 (7 * S.2 k 0 + d % 7) (by omega)
        rw [← Nat.add_assoc] at h4
        have K := ih (k + 1) (by omega) (by omega)
        rw [if_neg hk, gEl10 (by omega), (h.c hc).f0, gLtI, c_wd (by omega), gClI, c_shut h hI hs (by omega), gClI, gLtI, n0, iEq (by omega) (by omega), gEl10 (by omega), c_du (h.c hc) (hI.cust hc) (by omega), gClI, show duS (S.2 k) d = du S k d from rfl]
        have e1 : sm (fun c => if op S c d = true then du S c d else 0) (k + 1) = sm (fun c => if op S c d = true then du S c d else 0) k + (if op S k d = true then du S k d else 0) := rfl
        rw [e1] at K
        by_cases q : S.1 (20 + 7 * S.2 k 0 + d % 7) = 0
        · have ho : op S k d = true := decide_eq_true q
          rw [if_pos ho] at K
          rw [if_pos q, i3a, gLtI]
          dsimp only
          rw [gLtI, n1, i3a]
          exact K
        · have ho : op S k d = false := decide_eq_false q
          rw [ho, if_neg (by decide), Nat.add_zero] at K
          rw [if_neg q]
          dsimp only
          rw [gLtI, n1, i3a]
          exact K
  unfold fX0_dueInOpenStreets
  exact L gFU 0 (by omega) (by show _ < 5000; omega)
/-! the text's signs -/
theorem chr (k : Nat) (hk : k < 256) : ((i3 k).toUInt32 % 65536).toInt32 = i3 k ∧ vp_nar .char (i3 k) = i3 k := by
  have h : (List.range 256).all (fun k => decide (((i3 k).toUInt32 % 65536).toInt32 = i3 k ∧ vp_nar .char (i3 k) = i3 k)) = true := by decide +kernel
  exact of_decide_eq_true (List.all_eq_true.mp h k (List.mem_range.mpr hk))
/-- the most that is due in open streets on one of j days from d on -/
def lov (S : gB) : Nat → Nat → Nat → Nat
  | 0, _, mx => mx
  | j + 1, d, mx => lov S j (d + 1) (max mx (opdu S d))
theorem lov_le {B : Nat} {S : gB} (h : Is B S) : ∀ (j d mx : Nat), mx ≤ 90 → lov S j d mx ≤ 90
  | 0, d, mx, hm => hm
  | j + 1, d, mx, hm => by
    have ho : opdu S d ≤ 90 := opdu_le h (d := d) (k := S.1 0) (by omega)
    exact lov_le h j (d + 1) (max mx (opdu S d)) (by omega)
theorem c_lo {a B p : Nat} {S D : gB} {m : gM} (h : Cb (a + 128) S D m) (hI : Is B S) (hB : B < 100000) (hp : p ≤ 60) : ∀ (f j d mx : Nat), d + j = S.1 1 + p → j < f → mx ≤ 90 → fX5_leastOven_L20 a (i3 p) f (i3 mx) (i3 d) m = some (m, 0, i3 (lov S j d mx)) := by
  have hd := hI.2.1
  have hn := hI.1
  intro f
  induction f with
  | zero => intro j d mx h1 h2; omega
  | succ f ih =>
    intro j d mx h1 h3 h5
    have ho2 : opdu S d ≤ 90 := opdu_le hI (d := d) (k := S.1 0) (by omega)
    unfold fX5_leastOven_L20
    rw [Cx.h1 h, gLtI, i3a, iLe (by omega) (by omega)]
    cases j with
    | zero =>
      rw [if_pos (by omega)]
      rfl
    | succ j =>
      rw [if_neg (by omega), c_dios h hI (by omega), gClI, jmaxI (by omega) (by omega), gLtI, gLtI, n1, i3a]
      exact ih j (d + 1) (max mx (opdu S d)) (by omega) (by omega) (by omega)
