/-! the beginning -/
def S0 : gB := (fun i => if i = 11 then 30 else if i = 12 then 1 else if i = 13 then 2 else if i = 14 then 10 else if i = 15 then 3 else if 16 ≤ i ∧ i < 20 then i - 16 else 0, fun _ _ => 0)
def D0 : gB := (fun _ => 0, fun _ _ => 0)
theorem Iv0 (B : Nat) : Iv B S0 D0 := by
  refine ⟨⟨Nat.zero_le _, Nat.zero_le _, ?_, ?_, fun i hi => ?_, fun c hc => absurd hc (Nat.not_lt_zero _)⟩, fun c hc => absurd hc (Nat.not_lt_zero _), rfl, rfl, rfl, rfl, rfl⟩
  · show (30 ≤ 99 ∧ 1 ≤ 9 ∧ 2 ≤ 9 ∧ 10 ≤ 30 ∧ 1 ≤ 3 ∧ 3 ≤ 20)
    decide
  · show (0 < 4 ∧ 1 < 4 ∧ 2 < 4 ∧ 3 < 4 ∧ 0 ≠ 1 ∧ 0 ≠ 2 ∧ 0 ≠ 3 ∧ 1 ≠ 2 ∧ 1 ≠ 3 ∧ 2 ≠ 3)
    decide
  · have e : S0.1 (20 + i) = 0 := by
      unfold S0
      simp only
      rw [if_neg (by omega), if_neg (by omega), if_neg (by omega), if_neg (by omega), if_neg (by omega), if_neg (by omega)]
    rw [e]
    exact Nat.zero_le _
theorem gCpT5 {β : Type} {f : Nat → Int32} {σ : gM} {b : Nat} {k : gM → Option β} : gCpT f σ b 5 0 0 5 k = k (gCpTM f σ b 0 0 5) := if_neg (by decide)
theorem gCpTi {f : Nat → Int32} {σ : gM} {b i : Nat} (hi : i < 5) : gCpTM f σ b 0 0 5 (b + i) = f i := by
  unfold gCpTM
  rw [if_pos (by omega)]
  exact congrArg f (by omega)
theorem gCpTo {f : Nat → Int32} {σ : gM} {b y : Nat} (hi : y < b ∨ b + 5 ≤ y) : gCpTM f σ b 0 0 5 y = σ y := by
  unfold gCpTM
  rw [if_neg (by omega)]
theorem c_make (b : Nat) (m : gM) : ∃ o, fX0_makeNew b m = some o ∧ Fr b 308 m o ∧ Cb b S0 D0 o := by
  have L2 : ∀ (r32 : Int32 → gM → Option gM) (f k : Nat) (M : gM), k ≤ 4 → 4 - k < f → Fr b 308 m M → (∀ i, i < 6 → M (b + i) = i3 0) → (∀ i, i < 28 → M (b + 21 + i) = i3 0) → (∀ i, i < k → M (b + 49 + i) = i3 i) → ∃ o, fX0_makeNew_L53 b r32 f (i3 k) M = some o ∧ Fr b 308 m o ∧ Cb b S0 D0 o := by
    intro r32 f
    induction f with
    | zero => intro k M h1 h2; omega
    | succ f ih =>
      intro k M h1 h2 hf hh hs ho
      unfold fX0_makeNew_L53
      rw [n4, iLe (by omega) (by omega)]
      by_cases q : 4 ≤ k
      · have e : k = 4 := by omega
        subst e
        rw [if_pos q, gCpT5]
        refine ⟨_, rfl, fun x hx => by rw [gCpTo (by omega)]; exact hf x hx, ⟨?_, ?_, ?_, ?_, ?_, ?_⟩, fun i hi => ?_, fun i hi => ?_, fun i hi => ?_, fun c hc => absurd hc (Nat.not_lt_zero _)⟩
        · rw [gCpTo (by omega)]; exact hh 0 (by omega)
        · rw [gCpTo (by omega)]; exact hh 1 (by omega)
        · rw [gCpTo (by omega)]; exact hh 2 (by omega)
        · rw [gCpTo (by omega)]; exact hh 3 (by omega)
        · rw [gCpTo (by omega)]; exact hh 4 (by omega)
        · rw [gCpTo (by omega)]; exact hh 5 (by omega)
        · have e : S0.1 (20 + i) = 0 := by
            unfold S0
            simp only
            rw [if_neg (by omega), if_neg (by omega), if_neg (by omega), if_neg (by omega), if_neg (by omega), if_neg (by omega)]
          rw [gCpTo (by omega), hs i hi, e]
        · rw [gCpTo (by omega), ho i hi]
          rcases (show i = 0 ∨ i = 1 ∨ i = 2 ∨ i = 3 by omega) with r | r | r | r <;> subst r <;> rfl
        · rw [gCpTi hi]
          rcases (show i = 0 ∨ i = 1 ∨ i = 2 ∨ i = 3 ∨ i = 4 by omega) with r | r | r | r | r <;> subst r <;> rfl
      · rw [if_neg q, gWrI (by omega) (by omega), gLtI, n1, i3a]
        refine ih (k + 1) _ (by omega) (by omega) (hf.tr (Fr.up (by omega) (by omega))) (fun i hi => by rw [upd_n (by omega)]; exact hh i hi) (fun i hi => by rw [upd_n (by omega)]; exact hs i hi) (fun i hi => ?_)
        by_cases e : i = k
        · subst e
          rw [upd_s]
        · rw [upd_n (by omega)]
          exact ho i (by omega)
  have L1 : ∀ (f k : Nat) (M : gM), k ≤ 28 → 28 - k < f → Fr b 308 m M → (∀ i, i < 6 → M (b + i) = i3 0) → (∀ i, i < k → M (b + 21 + i) = i3 0) → ∃ o, fX0_makeNew_L32 b f (i3 k) M = some o ∧ Fr b 308 m o ∧ Cb b S0 D0 o := by
    intro f
    induction f with
    | zero => intro k M h1 h2; omega
    | succ f ih =>
      intro k M h1 h2 hf hh hs
      unfold fX0_makeNew_L32
      rw [n28, iLe (by omega) (by omega)]
      by_cases q : 28 ≤ k
      · rw [if_pos q, n0]
        exact L2 _ gFU 0 M (by omega) (by show _ < 5000; omega) hf hh (fun i hi => hs i (by omega)) (fun i hi => absurd hi (by omega))
      · rw [if_neg q, show vp_nar .boolean 0 = i3 0 from rfl, gWrI (by omega) (by omega), gLtI, n1, i3a]
        refine ih (k + 1) _ (by omega) (by omega) (hf.tr (Fr.up (by omega) (by omega))) (fun i hi => by rw [upd_n (by omega)]; exact hh i hi) (fun i hi => ?_)
        by_cases e : i = k
        · subst e
          rw [upd_s]
        · rw [upd_n (by omega)]
          exact hs i (by omega)
  unfold fX0_makeNew
  rw [gLtI, gLtI, gLtI, gLtI, gLtI, gLtI]
  rw [show (fX0_makeNew_L32 b gFU 0) = fX0_makeNew_L32 b gFU (i3 0) from rfl]
  refine L1 gFU 0 _ (by omega) (by show _ < 5000; omega) (fun x hx => ?_) (fun i hi => ?_) (fun i hi => absurd hi (by omega))
  · rw [upd_n (by omega), upd_n (by omega), upd_n (by omega), upd_n (by omega), upd_n (by omega), upd_n (by omega)]
  · rcases (show i = 0 ∨ i = 1 ∨ i = 2 ∨ i = 3 ∨ i = 4 ∨ i = 5 by omega) with r | r | r | r | r | r <;> subst r
    · rw [upd_n (by omega), upd_n (by omega), upd_n (by omega), upd_n (by omega), upd_n (by omega)]
      exact upd_z rfl
    · rw [upd_n (by omega), upd_n (by omega), upd_n (by omega), upd_n (by omega)]
      exact upd_z rfl
    · rw [upd_n (by omega), upd_n (by omega), upd_n (by omega)]
      exact upd_z rfl
    · rw [upd_n (by omega), upd_n (by omega)]
      exact upd_z rfl
    · rw [upd_n (by omega)]
      exact upd_z rfl
    · exact upd_z rfl
