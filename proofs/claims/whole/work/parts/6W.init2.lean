theorem m_clear (a : Nat) (m : gM) : ∃ o, fX6_clear a 258 m = some o ∧ Fr a 258 m o ∧ Mr a S0 D0 o := by
  have L2 : ∀ (r2 : Int32 → gM → Option gM) (f k : Nat) (M : gM), k ≤ 4 → 4 - k < f → Fr a 258 m M → (∀ i, i < 258 → M (a + i) = i3 (if i < 48 then (if 16 + k ≤ i ∧ i < 20 then 0 else S0.1 i) else 0)) → ∃ o, fX6_clear_L48 a 258 r2 f (i3 k) M = some o ∧ Fr a 258 m o ∧ Mr a S0 D0 o := by
    intro r2 f
    induction f with
    | zero => intro k M h1 h2; omega
    | succ f ih =>
      intro k M h1 h2 hf hv
      unfold fX6_clear_L48
      rw [n4, iLe (by omega) (by omega)]
      by_cases q : 4 ≤ k
      · rw [if_pos q]
        refine ⟨M, rfl, hf, fun i hi hj => ?_, fun i hi hj => ?_, fun c hc j hj hk => ?_, fun c hc j hj hk => ?_⟩
        · rw [hv i (by omega), if_pos (by omega), if_neg (by omega)]
        · rw [hv i (by omega), if_pos (by omega), if_neg (by omega)]
          unfold S0
          simp only
          rw [if_neg (by omega), if_neg (by omega), if_neg (by omega), if_neg (by omega), if_neg (by omega), if_neg (by omega)]
          rfl
        · rw [hv _ (by omega), if_neg (by omega)]
          rfl
        · rw [hv _ (by omega), if_neg (by omega)]
          rfl
      · rw [if_neg q, n16, i3a, gWrI (by omega) (by omega), gLtI, n1, i3a]
        refine ih (k + 1) _ (by omega) (by omega) (hf.tr (Fr.up (by omega) (by omega))) (fun i hi => ?_)
        by_cases e : i = 16 + k
        · subst e
          rw [upd_s, if_pos (by omega), if_neg (by omega)]
          unfold S0
          simp only
          rw [if_neg (by omega), if_neg (by omega), if_neg (by omega), if_neg (by omega), if_neg (by omega), if_pos (by omega), show 16 + k - 16 = k from by omega]
        · rw [upd_n (by omega), hv i hi]
          by_cases c : i < 48
          · rw [if_pos c, if_pos c]
            by_cases d : 16 + k ≤ i ∧ i < 20
            · rw [if_pos d, if_pos (by omega)]
            · rw [if_neg d, if_neg (by omega)]
          · rw [if_neg c, if_neg c]
  have L1 : ∀ (f k : Nat) (M : gM), k ≤ 258 → 258 - k < f → Fr a 258 m M → (∀ i, i < k → M (a + i) = i3 0) → ∃ o, fX6_clear_L2 a 258 f (i3 k) M = some o ∧ Fr a 258 m o ∧ Mr a S0 D0 o := by
    intro f
    induction f with
    | zero => intro k M h1 h2; omega
    | succ f ih =>
      intro k M h1 h2 hf hv
      unfold fX6_clear_L2
      rw [n258, iLe (by omega) (by omega)]
      by_cases q : 258 ≤ k
      · rw [if_pos q, n11, gWrI (by omega) (by omega), n12, gWrI (by omega) (by omega), n13, gWrI (by omega) (by omega), n14, gWrI (by omega) (by omega), n15, gWrI (by omega) (by omega), n0]
        refine L2 _ gFU 0 _ (by omega) (by show _ < 5000; omega) (fun x hx => ?_) (fun i hi => ?_)
        · rw [upd_n (by omega), upd_n (by omega), upd_n (by omega), upd_n (by omega), upd_n (by omega)]
          exact hf x hx
        · by_cases c : 11 ≤ i ∧ i < 16
          · rcases (show i = 11 ∨ i = 12 ∨ i = 13 ∨ i = 14 ∨ i = 15 by omega) with r | r | r | r | r <;> subst r
            · rw [upd_n (by omega), upd_n (by omega), upd_n (by omega), upd_n (by omega), upd_s]; rfl
            · rw [upd_n (by omega), upd_n (by omega), upd_n (by omega), upd_s]; rfl
            · rw [upd_n (by omega), upd_n (by omega), upd_s]; rfl
            · rw [upd_n (by omega), upd_s]; rfl
            · rw [upd_s]; rfl
          · rw [upd_n (by omega), upd_n (by omega), upd_n (by omega), upd_n (by omega), upd_n (by omega), hv i (by omega)]
            by_cases d : i < 48
            · rw [if_pos d]
              by_cases e : 16 + 0 ≤ i ∧ i < 20
              · rw [if_pos e]
              · rw [if_neg e]
                unfold S0
                simp only
                rw [if_neg (by omega), if_neg (by omega), if_neg (by omega), if_neg (by omega), if_neg (by omega), if_neg (by omega)]
            · rw [if_neg d]
      · rw [if_neg q, show (0 : Int32) = i3 0 from rfl, gWrI (by omega) (by omega), gLtI, n1, i3a]
        refine ih (k + 1) _ (by omega) (by omega) (hf.tr (Fr.up (by omega) (by omega))) (fun i hi => ?_)
        by_cases e : i = k
        · subst e
          rw [upd_s]
        · rw [upd_n (by omega)]
          exact hv i (by omega)
  unfold fX6_clear
  rw [show fX6_clear_L2 a 258 gFU 0 m = fX6_clear_L2 a 258 gFU (i3 0) m from rfl]
  exact L1 gFU 0 m (by omega) (by show _ < 5000; omega) Fr.rf (fun i hi => absurd hi (by omega))
theorem g_cl : gClOk := fun m => by
  obtain ⟨o, h1, h2, -⟩ := m_clear 5824 m
  exact ⟨o, h1, h2⟩
theorem g_inv0 : ∀ σ, gInit σ → Inv 0 σ := by
  intro σ h
  obtain ⟨⟨h7, h745, h746, h5075, h5076⟩, ⟨s', s2, k1, k2⟩, ⟨h5695, h5699, h8, h9⟩, t', t3, j1, j2⟩ := h
  obtain ⟨o, p1, -, p3⟩ := c_make 128 s'
  rw [k1] at p1
  cases p1
  obtain ⟨o2, q1, -, q3⟩ := m_clear 5824 t'
  rw [j1] at q1
  cases q1
  refine ⟨S0, D0, 0, fun _ => 0, 0, 0, fun _ => (S0, D0), fun _ => 0, fun _ => (S0, D0), ⟨?_, ?_, Iv0 _⟩, ⟨h7, h5695, by omega, fun i hi => absurd hi (by omega)⟩, ⟨h745, h746, h5699, by omega, by omega, fun j hj => absurd hj (by omega)⟩, fun s hs => ?_⟩
  · exact Cx.ag p3 (Nat.zero_le _) (fun x a1 a2 a3 => k2 x (by omega) (by omega))
  · exact q3.ag (fun x a1 a2 => j2 x (by omega) (by omega))
  · rcases (show s = 0 ∨ s = 1 by omega) with r | r <;> subst r
    · exact ⟨h5075, h8, Nat.zero_le _, fun e => absurd (show (0 : Nat) = 1 from e) (by decide)⟩
    · exact ⟨h5076, h9, Nat.zero_le _, fun e => absurd (show (0 : Nat) = 1 from e) (by decide)⟩
theorem g_rest : ∀ (T : Nat) (m : gM), T < 512 → Inv T m → Inv (T + 1) m := fun T m _ h => h.sc Sc.rf
