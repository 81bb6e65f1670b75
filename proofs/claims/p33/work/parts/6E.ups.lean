/-! acts by the reference -/
theorem up_up {α : Type} {f : Nat → α} {i : Nat} {v w : α} : up (up f i v) i w = up f i w := by
  funext j
  unfold up
  split <;> rfl
theorem sC_cu {S : gB} {c j x : Nat} {r : Nat → Nat} : sC (cuS S c r) c j x = cuS S c (up r j x) := by
  unfold sC cuS
  simp only [up_s, up_up]
theorem sC_cu0 {S : gB} {c j x : Nat} : sC S c j x = cuS S c (up (S.2 c) j x) := rfl
def drV (s : Nat → Nat) (k v : Nat) : Nat → Nat := fun j => if j = 14 then s 14 - 1 else if 15 + 2 * k ≤ j ∧ j < 15 + v then s (j + 2) else s j
def Rw (m0 m : gM) (q : Nat) (f : Nat → Nat) : Prop := (∀ j, j < 21 → m (q + j) = i3 (f j)) ∧ Fr q 21 m0 m
theorem rw_up {m0 m : gM} {q j v : Nat} {f : Nat → Nat} (h : Rw m0 m q f) (hj : j < 21) : Rw m0 (upd m (q + j) (i3 v)) q (up f j v) := by
  refine ⟨fun k hk => ?_, h.2.tr (Fr.up (by omega) (by omega))⟩
  by_cases e : k = j
  · subst e
    rw [upd_s, up_s]
  · rw [upd_n (by omega), up_n e]
    exact h.1 k hk
def nwT (st L t : Nat) : Nat → Nat := fun j => if j = 0 then st else if t < j ∧ j < 8 then L / 10 ^ (7 - j) % 10 else 0