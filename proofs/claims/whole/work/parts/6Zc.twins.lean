/-! a command, done alike -/
def TwB (B' : Nat) (S D : gB) (C R : gM → Option (gM × Int32)) : Prop := ∃ (S' D' : gB) (v : Bool), Iv B' S' D' ∧ (∀ m, Cb 436 S D m → ∃ m', C m = some (m', bI v) ∧ Cb 436 S' D' m' ∧ Fr 436 308 m m') ∧ (∀ m, Mr 6082 S D m → ∃ m', R m = some (m', bI v) ∧ Mr 6082 S' D' m' ∧ Fr 6082 258 m m')
theorem tb_no {B B' : Nat} {S D : gB} {C R : gM → Option (gM × Int32)} (hI : Iv B S D) (hb : B ≤ B') (h1 : ∀ m, Cb 436 S D m → C m = some (m, bI false)) (h2 : ∀ m, Mr 6082 S D m → R m = some (m, bI false)) : TwB B' S D C R :=
  ⟨S, D, false, hI.le hb, fun m h => ⟨m, h1 m h, h, Fr.rf⟩, fun m h => ⟨m, h2 m h, h, Fr.rf⟩⟩
theorem aC {F : Option (gM × Int32)} {m' : gM} {x : Nat} (hx : x < 1000000) (h : F = some (m', i3 x)) : (gCl F fun m8 x9 => (if x9 = (-1) then gRz .boolean 0 (some (m8, 0)) else gRz .boolean 1 (some (m8, 1)))) = some (m', bI true) := by
  rw [h, gClI, if_neg (i3nm hx)]
  rfl
theorem aN {F : Option (gM × Int32)} {m' : gM} (h : F = some (m', -1)) : (gCl F fun m8 x9 => (if x9 = (-1) then gRz .boolean 0 (some (m8, 0)) else gRz .boolean 1 (some (m8, 1)))) = some (m', bI false) := by
  rw [h, gClI, if_pos rfl]
  rfl
theorem aM {F : Option (gM × Int32)} {m' : gM} {x : Nat} (hx : x < 1000000) (h : F = some (m', i3 x)) : (gCl F fun m8 x9 => (if x9 < 0 then gRz .boolean 0 (some (m8, 0)) else gRz .boolean 1 (some (m8, 1)))) = some (m', bI true) := by
  rw [h, gClI, if_neg (i3n (by omega))]
  rfl
theorem tb5 {B n r : Nat} {S D : gB} (hI : Iv B S D) (hn : n < 1000000) (hk : 5 = n / 100000) (hr : r = n % 100000) : TwB (B + 60) S D (fX5_succeeds (i3 n)) (fX6_command (i3 5) (i3 r)) := by
  have hr2 : r < 100000 := by omega
  have C0 : ∀ m, fX5_succeeds (i3 n) m = _ := fun m => by rw [succC hn hk hr, if_neg (by decide), if_neg (by decide), if_neg (by decide), if_neg (by decide), if_pos (by decide)]
  have R0 : ∀ m, fX6_command (i3 5) (i3 r) m = _ := fun m => by rw [commM hr2, if_neg (by decide), if_neg (by decide), if_neg (by decide), if_neg (by decide), if_pos (by decide), m_st, gClI, m_st, gClI]
  by_cases c : r % 1000 = 0
  · by_cases hs : r / 10000 < 4 ∧ r / 1000 % 10 < 4
    · have p1 := (plc_ok hI.1 hs.2).1
      refine ⟨_, D, true, (hI.sw hs.1 hs.2).le (by omega), fun m h => ?_, fun m h => ?_⟩
      · obtain ⟨m', s1, s2, s3⟩ := pf5 (p4 := 0) h hI.1 hs.1 hs.2
        refine ⟨m', ?_, s2, s3⟩
        rw [C0, c, if_pos (by decide)]
        exact aC (by omega) s1
      · obtain ⟨m', s1, s2, s3⟩ := m_swap h hI.1 hs.1 hs.2
        refine ⟨m', ?_, s2, s3⟩
        rw [R0, c, if_pos (by decide), show wi (i3 (r / 10000)) 0 3 = true from wiT (a := 0) (b := 3) (by omega) (by omega) (by omega), if_neg (by decide), show wi (i3 (r / 1000 % 10)) 0 3 = true from wiT (a := 0) (b := 3) (by omega) (by omega) (by omega), if_neg (by decide)]
        exact aM (by omega) s1
    · have hw : (wi (i3 (r / 10000)) 0 3 && wi (i3 (r / 1000 % 10)) 0 3) = false := by
        by_cases q : r / 10000 < 4
        · rw [show wi (i3 (r / 1000 % 10)) 0 3 = false from wiF (a := 0) (b := 3) (by omega) (by omega), Bool.and_false]
        · rw [show wi (i3 (r / 10000)) 0 3 = false from wiF (a := 0) (b := 3) (by omega) (by omega), Bool.false_and]
      refine tb_no hI (by omega) (fun m h => ?_) (fun m h => ?_)
      · have e := rf5 (b := 436) (p2 := i3 (r / 10000)) (p3 := i3 (r / 1000 % 10)) (p4 := 0) (m := m)
        rw [C0, c, if_pos (by decide)]
        refine aN (pf_no e ?_)
        rw [hw]
        exact show 20001 ≠ 20000 by decide
      · rw [R0, c, if_pos (by decide)]
        cases h1 : wi (i3 (r / 10000)) 0 3 with
        | false => rfl
        | true =>
          rw [h1] at hw
          have h2 : wi (i3 (r / 1000 % 10)) 0 3 = false := hw
          rw [h2]
          rfl
  · refine tb_no hI (by omega) (fun m h => ?_) (fun m h => ?_)
    · rw [C0, n0, iEq (by omega) (by omega), if_neg c]
      rfl
    · rw [R0, n0, iEq (by omega) (by omega), if_neg c]
      rfl
