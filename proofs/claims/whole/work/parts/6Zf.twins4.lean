theorem tb9 {B n r : Nat} {S D : gB} (hI : Iv B S D) (hn : n < 1000000) (hk : 9 = n / 100000) (hr : r = n % 100000) : TwB (B + 60) S D (fX5_succeeds (i3 n)) (fX6_command (i3 9) (i3 r)) := by
  have hr2 : r < 100000 := by omega
  have C0 : ∀ m, fX5_succeeds (i3 n) m = _ := fun m => by rw [succC hn hk hr, if_neg (by decide), if_neg (by decide), if_neg (by decide), if_neg (by decide), if_neg (by decide), if_neg (by decide), if_neg (by decide), if_neg (by decide), if_pos (by decide)]
  have R0 : ∀ m, fX6_command (i3 9) (i3 r) m = _ := fun m => by rw [commM hr2, if_neg (by decide), if_neg (by decide), if_neg (by decide), if_neg (by decide), if_neg (by decide), if_neg (by decide), if_neg (by decide), if_neg (by decide), if_pos (by decide)]
  have LG : ∀ m, Cb 436 S D m → fX0_loavesGot 436 m = some (m, i3 (D.1 3) + i3 (D.1 4)) := fun m h => by
    obtain ⟨-, s3, s4, -⟩ := c_sums h hI
    unfold fX0_loavesGot
    rw [s3, gClI, s4, gClI]
  have G3 : ∀ m, Mr 6082 S D m → ∀ (k : Int32 → Option (gM × Int32)), gRd m 6082 258 3 k = k (i3 (D.1 3)) := fun m h k => m_rD h (i := 3) (by omega) (by omega)
  have G4 : ∀ m, Mr 6082 S D m → ∀ (k : Int32 → Option (gM × Int32)), gRd m 6082 258 4 k = k (i3 (D.1 4)) := fun m h k => m_rD h (i := 4) (by omega) (by omega)
  by_cases c : r / 10000 = 0
  · by_cases q : i3 (D.1 3) + i3 (D.1 4) < i3 (r % 10000)
    · refine tb_no hI (by omega) (fun m h => ?_) (fun m h => ?_)
      · rw [C0, c, if_pos (by decide), LG m h, gClI, if_pos q]
        rfl
      · rw [R0, c, if_pos (by decide), G3 m h, G4 m h, if_pos q]
        rfl
    · refine ⟨S, D, true, hI.le (by omega), fun m h => ⟨m, ?_, h, Fr.rf⟩, fun m h => ⟨m, ?_, h, Fr.rf⟩⟩
      · rw [C0, c, if_pos (by decide), LG m h, gClI, if_neg q]
        rfl
      · rw [R0, c, if_pos (by decide), G3 m h, G4 m h, if_neg q]
        rfl
  · refine tb_no hI (by omega) (fun m h => ?_) (fun m h => ?_)
    · rw [C0, n0, iEq (by omega) (by omega), if_neg c]
      rfl
    · rw [R0, n0, iEq (by omega) (by omega), if_neg c]
      rfl
theorem tb0 {B n r : Nat} {S D : gB} (hI : Iv B S D) (hn : n < 1000000) (hk : 0 = n / 100000) (hr : r = n % 100000) : TwB (B + 60) S D (fX5_succeeds (i3 n)) (fX6_command (i3 0) (i3 r)) := by
  have hr2 : r < 100000 := by omega
  refine tb_no hI (by omega) (fun m h => ?_) (fun m h => ?_)
  · rw [succC hn hk hr, if_neg (by decide), if_neg (by decide), if_neg (by decide), if_neg (by decide), if_neg (by decide), if_neg (by decide), if_neg (by decide), if_neg (by decide), if_neg (by decide)]
    rfl
  · rw [commM hr2, if_neg (by decide), if_neg (by decide), if_neg (by decide), if_neg (by decide), if_neg (by decide), if_neg (by decide), if_neg (by decide), if_neg (by decide), if_neg (by decide)]
    rfl
