theorem m_best {B p : Nat} {S D : gB} (hI : Iv B S D) (hB : B + 1000 < 1000000) (hp : p ≤ 30) : ∀ (f j v : Nat) (z : Option (Nat × Nat)) (m : gM), v + j = 3211 → j < f → (∀ e l, z = some (e, l) → e < 4000 ∧ l ≤ 300) → Mr 5824 S D m → ∃ m', fX6_bestRound_L34 (i3 p) f (enc z).1 (enc z).2 (i3 v) m = some (m', (enc (bst S D p ((List.range' v j).filter okR) z)).1) ∧ Fr 6082 258 m m' := by
  have hn := hI.1.1
  intro f
  induction f with
  | zero => intro j v z m h1 h2; omega
  | succ f ih =>
    intro j v z m h1 h2 hz h
    unfold fX6_bestRound_L34
    rw [n3210, iLt (by omega) (by omega)]
    cases j with
    | zero =>
      rw [if_pos (by omega)]
      exact ⟨m, rfl, Fr.rf⟩
    | succ j =>
      have hv : v < 3211 := by omega
      rw [if_neg (by omega), m_order hv, gClI, gLtI, iB0, List.range'_succ]
      cases ho : okR v with
      | false =>
        rw [if_neg (by decide), List.filter_cons_of_neg (by rw [ho]; decide)]
        dsimp only
        rw [gLtI, n1, i3a]
        exact ih j (v + 1) z m (by omega) (by omega) hz h
      | true =>
        obtain ⟨q1, q2, q3⟩ := crd_le (p := p) hI ho
        obtain ⟨m1, s1, s2, s3⟩ := m_copy (a := 5824) (na := 258) (p := 0) (b := 6082) (nb := 258) (q := 0) h (by omega) (by omega) (by omega) (by omega) (by omega)
        have g1 := (((s2.SH (i := 16) (v := v / 1000) (by omega) (by omega)).SH (i := 17) (v := v / 100 % 10) (by omega) (by omega)).SH (i := 18) (v := v / 10 % 10) (by omega) (by omega)).SH (i := 19) (v := v % 10) (by omega) (by omega)
        rw [orS_m] at g1
        have t4 : Mr 6082 (orD S v) D (upd (upd (upd (upd m1 (6082 + 16) (i3 (v / 1000))) (6082 + 17) (i3 (v / 100 % 10))) (6082 + 18) (i3 (v / 10 % 10))) (6082 + 19) (i3 (v % 10))) := g1
        have f4 : Fr 6082 258 m1 (upd (upd (upd (upd m1 (6082 + 16) (i3 (v / 1000))) (6082 + 17) (i3 (v / 100 % 10))) (6082 + 18) (i3 (v / 10 % 10))) (6082 + 19) (i3 (v % 10))) := (((Fr.up (by omega) (by omega)).tr (Fr.up (by omega) (by omega))).tr (Fr.up (by omega) (by omega))).tr (Fr.up (by omega) (by omega))
        have hI2 : Iv B (orD S v) D := orS_iv hI ho
        obtain ⟨m3, u1, u2, u3⟩ := m_days (p := p) t4 hI2 (by omega) (by omega)
        have fr : Fr 6082 258 m m3 := (s3.tr f4).tr u3
        have h3 : Mr 5824 S D m3 := h.fr fr (by omega)
        have e2 : fX6_credits 6082 258 m3 = some (m3, i3 (crd S D p v)) := by
          rw [m_cred u2 q3.1]
          unfold crd
          rw [q2]
        have e16 : i3 v / 1000 = i3 (v / 1000) := by rw [n1000, i3d (by omega) (by omega)]
        have e17 : (i3 v / 100) - (i3 v / 100) / 10 * 10 = i3 (v / 100 % 10) := by rw [n100, i3d (by omega) (by omega), n10, i3r (by omega) (by omega)]
        have e18 : (i3 v / 10) - (i3 v / 10) / 10 * 10 = i3 (v / 10 % 10) := by
          have k : i3 v / 10 = i3 (v / 10) := by rw [n10, i3d (by omega) (by omega)]
          rw [k, n10, i3r (by omega) (by omega)]
        have e19 : i3 v - i3 v / 10 * 10 = i3 (v % 10) := by rw [n10, i3r (by omega) (by omega)]
        rw [if_pos rfl, List.filter_cons_of_pos ho, show fX6_copyState 5824 258 0 6082 258 0 m = some m1 from s1, gCvI, e16, n16, gWrI (by omega) (by omega), e17, n17, gWrI (by omega) (by omega), e18, n18, gWrI (by omega) (by omega), e19, n19, gWrI (by omega) (by omega), u1, gClI, gLtI, e2, gClI]
        cases z with
        | none =>
          obtain ⟨m4, v1, v2⟩ := ih j (v + 1) (some (v, crd S D p v)) m3 (by omega) (by omega) (fun e l q => by cases q; exact ⟨by omega, q1⟩) h3
          refine ⟨m4, ?_, fr.tr v2⟩
          rw [if_pos (show (enc none).1 = -1 from rfl)]
          dsimp only
          rw [if_neg (by decide), gLtI, gLtI, if_neg (by decide), e2, gClI]
          dsimp only
          rw [gLtI, n1, i3a]
          exact v1
        | some w =>
          obtain ⟨e, l⟩ := w
          obtain ⟨z1, z2⟩ := hz e l rfl
          rw [if_neg (show ¬ (enc (some (e, l))).1 = -1 from i3nm (by omega)), show (enc (some (e, l))).2 = i3 l from rfl, iLe (by omega) (by omega)]
          have eb : ∀ ds, bst S D p (v :: ds) (some (e, l)) = bst S D p ds (if l ≤ crd S D p v then some (e, l) else some (v, crd S D p v)) := fun _ => rfl
          rw [eb]
          by_cases c : l ≤ crd S D p v
          · obtain ⟨m4, v1, v2⟩ := ih j (v + 1) (some (e, l)) m3 (by omega) (by omega) hz h3
            refine ⟨m4, ?_, fr.tr v2⟩
            rw [if_pos c, if_pos c]
            dsimp only
            rw [if_pos rfl, gLtI, gLtI, if_pos rfl]
            dsimp only
            rw [gLtI, n1, i3a]
            exact v1
          · obtain ⟨m4, v1, v2⟩ := ih j (v + 1) (some (v, crd S D p v)) m3 (by omega) (by omega) (fun e l q => by cases q; exact ⟨by omega, q1⟩) h3
            refine ⟨m4, ?_, fr.tr v2⟩
            rw [if_neg c, if_neg c]
            dsimp only
            rw [if_neg (by decide), gLtI, gLtI, if_neg (by decide), e2, gClI]
            dsimp only
            rw [gLtI, n1, i3a]
            exact v1
theorem g25 : gP25 Inv := by
  intro T m a1 hT hi
  obtain ⟨S, D, hb⟩ := hi.B
  have hc : fX5_isWithin a1 1 30 m = some (m, bI (wi a1 1 30)) := by rw [c_in]; rfl
  have hm : ∀ m, fX6_in a1.toInt64 1 30 m = some (m, bI (wi a1 1 30)) := fun m => by rw [m_inI]; rfl
  cases w1 : wi a1 1 30 with
  | false =>
    rw [w1] at hc
    refine q_no (r := 0) (k := 1) (e := 2) hi ?_ (by omega) rfl ?_
    · unfold fX5_bestRound
      rw [hc, gClI, gDemF]
    · unfold fX6_bestRound
      rw [hm, w1, gClI, m_reqF, if_neg (by decide)]
  | true =>
    rw [w1] at hc
    obtain ⟨p, e, b1, b2, -⟩ := wi_n (a := 1) (b := 30) w1
    obtain ⟨m2, t1, t3⟩ := c_best hb.2.2 (by omega) b2 gFU 256 0 none m (by omega) (by show 256 < 5000; omega) (fun e l q => by cases q) hb.1
    have sc2 : Sc m m2 := Sc.fr4 t3
    have hb3 := (hb.sc sc2).sc (Sc.th (v := 0))
    obtain ⟨m5, v1, v3⟩ := m_best hb.2.2 (by omega) b2 gFU 3088 123 none _ (by omega) (by show 3088 < 5000; omega) (fun e l q => by cases q) hb3.2.1
    rw [orders] at t1
    refine q_ok (r := (enc (bst S D p ((List.range' 123 3088).filter okR) none)).1) (m1 := m2) (m2 := m5) hi ?_ ?_ ?_ ((sc2.tr Sc.th).tr (Sc.fr6 v3))
    · unfold fX5_bestRound
      rw [hc, gClI, gDemT, e]
      exact t1
    · unfold fX6_bestRound
      rw [hm, w1, gClI, m_reqT, if_pos rfl, e]
      exact v1
    · rw [v3 _ (by omega), upd_s]
