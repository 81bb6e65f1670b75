/-! small facts of books and demands -/
theorem Cx.ag {b hh : Nat} {S D : gB} {m m' : gM} (h : Cx b S D hh m) (hn : S.1 0 ≤ 10) (hf : ∀ x, b ≤ x → x < b + 308 → (x < b + 58 ∨ b + 68 ≤ x) → m' x = m x) : Cx b S D hh m' := by
  refine ⟨⟨?_, ?_, ?_, ?_, ?_, ?_⟩, fun i hi => ?_, fun i hi => ?_, fun i hi => ?_, fun c hc => ?_⟩
  · rw [hf _ (by omega) (by omega) (by omega)]; exact h.h0
  · rw [hf _ (by omega) (by omega) (by omega)]; exact h.h1
  · rw [hf _ (by omega) (by omega) (by omega)]; exact h.h2
  · rw [hf _ (by omega) (by omega) (by omega)]; exact h.h3
  · rw [hf _ (by omega) (by omega) (by omega)]; exact h.h4
  · rw [hf _ (by omega) (by omega) (by omega)]; exact h.h5
  · rw [hf _ (by omega) (by omega) (by omega)]; exact h.2.1 i hi
  · rw [hf _ (by omega) (by omega) (by omega)]; exact h.2.2.1 i hi
  · rw [hf _ (by omega) (by omega) (by omega)]; exact h.2.2.2.1 i hi
  · have g := h.c hc
    refine ⟨?_, fun i hi => ?_, ?_, fun w hw => ?_, fun k hk hj => ⟨?_, ?_⟩⟩
    · rw [hf _ (by omega) (by omega) (by omega)]; exact g.1
    · rw [hf _ (by omega) (by omega) (by omega)]; exact g.2.1 i hi
    · rw [hf _ (by omega) (by omega) (by omega)]; exact g.2.2.1
    · rw [hf _ (by omega) (by omega) (by omega)]; exact g.2.2.2.1 w hw
    · rw [hf _ (by omega) (by omega) (by omega)]; exact (g.2.2.2.2 k hk hj).1
    · rw [hf _ (by omega) (by omega) (by omega)]; exact (g.2.2.2.2 k hk hj).2
def rg (nx q j : Nat) : Nat := (nx + 14 - q + j) % 14
theorem rg_lt (nx q j : Nat) : rg nx q j < 14 := Nat.mod_lt _ (by omega)
/-! a call's two answers -/
theorem gDemT {e : Nat} {m : gM} {k : Option (gM × Nat × Int32)} : gDem e (bI true) m k = k := rfl
theorem gDemF {e : Nat} {m : gM} {k : Option (gM × Nat × Int32)} : gDem e (bI false) m k = some (m, e, 0) := rfl
