def opdu (S : gB) (d : Nat) : Nat := sm (fun c => if op S c d = true then du S c d else 0) (S.1 0)
theorem opdu_le {B : Nat} {S : gB} (h : Is B S) {d k : Nat} (hk : k ≤ S.1 0) : sm (fun c => if op S c d = true then du S c d else 0) k ≤ 90 := by
  have h1 := sm_le (f := fun c => if op S c d = true then du S c d else 0) (b := 9) (n := k) (fun i hi => by
    have := du_le (d := d) h (c := i) (by omega)
    show (if op S i d = true then du S i d else 0) ≤ 9
    split <;> omega)
  have h2 := h.1
  omega
theorem c_dios {b B hh d : Nat} {S D : gB} {m : gM} (h : Cx b S D hh m) (hI : Is B S) (hd : d < 1000000) : fX0_dueInOpenStreets b (i3 d) m = some (m, i3 (opdu S d)) := by
  have hn := hI.1
  have L : ∀ (f k : Nat), k ≤ S.1 0 → S.1 0 - k < f → fX0_dueInOpenStreets_L4 b (i3 d) f (i3 (sm (fun c => if op S c d = true then du S c d else 0) k)) (i3 k) m = some (m, i3 (opdu S d)) := by
    intro f
    induction f with
    | zero => intro k h1 h2; omega
    | succ f ih =>
      intro k h1 h2
      unfold fX0_dueInOpenStreets_L4
      rw [h.h0, gLtI, iLe (by omega) (by omega)]
      by_cases hk : S.1 0 ≤ k
      · have e : k = S.1 0 := by omega
        rw [if_pos hk, e]
        rfl
      · have hc : k < S.1 0 := by omega
        have hs := (hI.cust hc).1
        have h4 := hI.2.2.2.2.1 (7 * S.2 k 0 + d % 7) (by omega)
        rw [← Nat.add_assoc] at h4
        have K := ih (k + 1) (by omega) (by omega)
        rw [if_neg hk, gEl10 (by omega), (h.c hc).f0, gLtI, c_wd (by omega), gClI, c_shut h hI hs (by omega), gClI, gLtI, n0, iEq (by omega) (by omega), gEl10 (by omega), c_du (h.c hc) (hI.cust hc) (by omega), gClI, show duS (S.2 k) d = du S k d from rfl]
        have e1 : sm (fun c => if op S c d = true then du S c d else 0) (k + 1) = sm (fun c => if op S c d = true then du S c d else 0) k + (if op S k d = true then du S k d else 0) := rfl
        rw [e1] at K
        by_cases q : S.1 (20 + 7 * S.2 k 0 + d % 7) = 0
        · have ho : op S k d = true := decide_eq_true q
          rw [if_pos ho] at K
          rw [if_pos q, i3a, gLtI]
          dsimp only
          rw [gLtI, n1, i3a]
          exact K
        · have ho : op S k d = false := decide_eq_false q
          rw [ho, if_neg (by decide), Nat.add_zero] at K
          rw [if_neg q]
          dsimp only
          rw [gLtI, n1, i3a]
          exact K
  unfold fX0_dueInOpenStreets
  exact L gFU 0 (by omega) (by show _ < 5000; omega)
theorem m_lo53 {B d : Nat} {S D : gB} {m : gM} {v1 : Int32} {r35 : Int32 → Int32 → gM → Option (gM × Int32)} {mx : Nat} (h : Mr 5824 S D m) (hI : Is B S) (hd : d < 1000000) (hmx : mx < 1000) : ∀ (f k : Nat), k ≤ S.1 0 → S.1 0 - k < f → fX6_leastOven_L53 v1 (i3 mx) (i3 d) r35 f (i3 (sm (fun c => if op S c d = true then du S c d else 0) k)) (i3 k) m = r35 (i3 (max mx (opdu S d))) (i3 (d + 1)) m := by
  have hn := hI.1
  have ho := opdu_le hI (d := d) (k := S.1 0) (by omega)
  intro f
  induction f with
  | zero => intro k h1 h2; omega
  | succ f ih =>
    intro k h1 h2
    unfold fX6_leastOven_L53
    rw [n0, m_rS h (by omega) (by omega), iLe (by omega) (by omega)]
    by_cases hk : S.1 0 ≤ k
    · have e : k = S.1 0 := by omega
      subst e
      rw [if_pos hk, iLe (by omega) (by omega), gLtI, gLtI, n1, i3a]
      congr 1
      show _ = i3 (max mx (opdu S d))
      by_cases q : opdu S d ≤ mx
      · rw [Nat.max_eq_left q]
        exact if_pos q
      · rw [Nat.max_eq_right (by omega)]
        exact if_neg q
    · have hc : k < S.1 0 := by omega
      have K := ih (k + 1) (by omega) (by omega)
      have e1 : sm (fun c => if op S c d = true then du S c d else 0) (k + 1) = sm (fun c => if op S c d = true then du S c d else 0) k + (if op S k d = true then du S k d else 0) := rfl
      rw [e1] at K
      rw [if_neg hk, m_op h hI hc hd, gClI, gLtI, iB0', m_du h hI hc hd, gClI]
      cases hop : op S k d with
      | true =>
        rw [hop, if_pos rfl] at K
        rw [if_pos rfl]
        dsimp only
        rw [i3a, gLtI, gLtI, n1, i3a]
        exact K
      | false =>
        rw [hop, if_neg (by decide)] at K
        rw [if_neg (by decide)]
        dsimp only
        rw [i3a, gLtI, gLtI, n1, i3a]
        exact K
theorem loL {B p : Nat} {S D : gB} {m m2 : gM} (h : Cb 128 S D m) (h2 : Mr 5824 S D m2) (hI : Is B S) (hB : B < 100000) (hp : p ≤ 60) : ∀ (f d mx : Nat), S.1 1 ≤ d → d ≤ S.1 1 + p → S.1 1 + p - d < f → mx < 1000 → ∃ r, fX5_leastOven_L20 (i3 p) f (i3 mx) (i3 d) m = some (m, 0, r) ∧ fX6_leastOven_L35 (i3 p) f (i3 mx) (i3 d) m2 = some (m2, r) := by
  have hd := hI.2.1
  have hn := hI.1
  intro f
  induction f with
  | zero => intro d mx h1 h2; omega
  | succ f ih =>
    intro d mx h1 h3 h4 h5
    have ho := opdu_le hI (d := d) (k := S.1 0) (by omega)
    have ho2 : opdu S d ≤ 90 := ho
    unfold fX5_leastOven_L20 fX6_leastOven_L35
    have r1 : ∀ (k : Int32 → Option (gM × Int32)), gRd m2 5824 258 1 k = k (i3 (S.1 1)) := fun k => m_rS h2 (i := 1) (by omega) (by omega)
    rw [r1, Cx.h1 h, gLtI, i3a, iLe (by omega) (by omega), iLe (by omega) (by omega)]
    by_cases q : S.1 1 + p ≤ d
    · rw [if_pos q, if_pos q]
      exact ⟨_, rfl, rfl⟩
    · have K := m_lo53 (v1 := i3 p) (r35 := fX6_leastOven_L35 (i3 p) f) (mx := mx) h2 hI (d := d) (by omega) h5 gFU 0 (by omega) (by show _ < 5000; omega)
      rw [show i3 (sm (fun c => if op S c d = true then du S c d else 0) 0) = 0 from rfl, show i3 0 = 0 from rfl] at K
      rw [if_neg q, if_neg q, K, c_dios h hI (by omega), gClI, jmaxI (by omega) (by omega), gLtI, gLtI, n1, i3a]
      exact ih (d + 1) (max mx (opdu S d)) (by omega) (by omega) (by omega) (by omega)
theorem g24 : gP24 Inv := by
  intro T m a1 hT hi
  obtain ⟨S, D, hb⟩ := hi.B
  have hc : fX5_isWithin a1 1 60 m = some (m, bI (wi a1 1 60)) := by rw [c_in]; rfl
  have hm : fX6_in a1.toInt64 1 60 m = some (m, bI (wi a1 1 60)) := by rw [m_inI]; rfl
  have hd := hb.2.2.1.2.1
  cases hw : wi a1 1 60 with
  | true =>
    obtain ⟨p, e, h1, h2, h3⟩ := wi_n (a := 1) (b := 60) hw
    rw [hw] at hc hm
    have hb2 := hb.sc (Sc.th (v := 0))
    obtain ⟨r, x1, x2⟩ := loL hb.1 hb2.2.1 hb.2.2.1 (by omega) h2 gFU (S.1 1) 0 (by omega) (by omega) (by show _ < 5000; omega) (by omega)
    refine q_ok (r := r) (m1 := m) (m2 := upd m (5693 + 0) 0) hi ?_ ?_ upd_s Sc.th
    · unfold fX5_leastOven
      rw [hc, gClI, gDemT, e, Cx.h1 hb.1, gLtI]
      exact x1
    · unfold fX6_leastOven
      have r1 : ∀ (k : Int32 → Option (gM × Int32)), gRd (upd m (5693 + 0) 0) 5824 258 1 k = k (i3 (S.1 1)) := fun k => m_rS hb2.2.1 (i := 1) (by omega) (by omega)
      rw [hm, gClI, m_reqT, if_pos rfl, r1, e]
      exact x2
  | false =>
    rw [hw] at hc hm
    refine q_no (r := 0) (k := 1) (e := 2) hi ?_ (by omega) rfl ?_
    · unfold fX5_leastOven
      rw [hc, gClI, gDemF]
    · unfold fX6_leastOven
      rw [hm, gClI, m_reqF, if_neg (by decide)]
/-! the text's signs -/
theorem chr (k : Nat) (hk : k < 256) : ((i3 k).toUInt32 % 65536).toInt32 = i3 k ∧ vp_nar .char (i3 k) = i3 k := by
  have h : (List.range 256).all (fun k => decide (((i3 k).toUInt32 % 65536).toInt32 = i3 k ∧ vp_nar .char (i3 k) = i3 k)) = true := by decide +kernel
  exact of_decide_eq_true (List.all_eq_true.mp h k (List.mem_range.mpr hk))
/-- all but the text -/
theorem Inv.tx {T n : Nat} {f : Nat → Nat} {m m' : gM} (h : Inv T m) (hs : ∀ x, ¬ scr x → x ≠ 7 → x ≠ 5695 → (x < 8 ∨ 128 ≤ x) → (x < 5704 ∨ 5824 ≤ x) → m' x = m x) (ht : InT n f m') : Inv (T + 1) m' := by
  obtain ⟨S, D, n0, f0, nx, q, F, w, G, h1, h2, h3, h4⟩ := h
  refine ⟨S, D, n, f, nx, q, F, w, G, ?_, ht, ?_, ?_⟩
  · refine InB.le (B := 2400 + 60 * T) ⟨Cx.ag h1.1 h1.2.2.1.1 (fun x a1 a2 a3 => ?_), h1.2.1.ag (fun x a1 a2 => ?_), h1.2.2⟩ (by omega)
    · exact hs x (by unfold scr; omega) (by omega) (by omega) (by omega) (by omega)
    · exact hs x (by unfold scr; omega) (by omega) (by omega) (by omega) (by omega)
  · obtain ⟨k1, k2, k3, k4, k5, k6⟩ := h3
    refine ⟨?_, ?_, ?_, k4, k5, fun j hj => ?_⟩
    · rw [hs _ (by unfold scr; omega) (by omega) (by omega) (by omega) (by omega)]; exact k1
    · rw [hs _ (by unfold scr; omega) (by omega) (by omega) (by omega) (by omega)]; exact k2
    · rw [hs _ (by unfold scr; omega) (by omega) (by omega) (by omega) (by omega)]; exact k3
    · obtain ⟨j1, j2, j3⟩ := k6 j hj
      have hr := rg_lt nx q j
      refine ⟨Cx.ag j1 j3.1.1 (fun x a1 a2 a3 => ?_), j2.ag (fun x a1 a2 => ?_), j3.le (by omega)⟩
      · exact hs x (by unfold scr; omega) (by omega) (by omega) (by omega) (by omega)
      · exact hs x (by unfold scr; omega) (by omega) (by omega) (by omega) (by omega)
  · intro s hs2
    obtain ⟨k1, k2, k3, k4⟩ := h4 s hs2
    refine ⟨?_, ?_, k3, fun e => ?_⟩
    · rw [hs _ (by unfold scr; omega) (by omega) (by omega) (by omega) (by omega)]; exact k1
    · rw [hs _ (by unfold scr; omega) (by omega) (by omega) (by omega) (by omega)]; exact k2
    · obtain ⟨j1, j2, j3⟩ := k4 e
      refine ⟨Cx.ag j1 j3.1.1 (fun x a1 a2 a3 => ?_), j2.ag (fun x a1 a2 => ?_), j3.le (by omega)⟩
      · exact hs x (by unfold scr; omega) (by omega) (by omega) (by omega) (by omega)
      · exact hs x (by unfold scr; omega) (by omega) (by omega) (by omega) (by omega)
theorem Inv.t {T : Nat} {m : gM} (h : Inv T m) : ∃ n f, InT n f m := by
  obtain ⟨S, D, n, f, nx, q, F, w, G, h1, h2, h3, h4⟩ := h
  exact ⟨n, f, h2⟩
theorem g0 : gP0 Inv := by
  intro T m a1 hT hi
  obtain ⟨n, f, ht⟩ := hi.t
  obtain ⟨t1, t2, t3, t4⟩ := ht
  have hc : fX5_isWithin a1 0 255 m = some (m, bI (wi a1 0 255)) := by rw [c_in]; rfl
  have hm : fX6_in a1.toInt64 0 255 m = some (m, bI (wi a1 0 255)) := by rw [m_inI]; rfl
  cases hw : wi a1 0 255 with
  | false =>
    rw [hw] at hc hm
    refine q_no (r := 0) (k := 1) (e := 2) hi ?_ (by omega) rfl ?_
    · unfold fX5_append
      rw [hc, gClI, gDemF]
    · unfold fX6_append
      rw [hm, gClI, gLtI]
      rfl
  | true =>
    rw [hw] at hc hm
    obtain ⟨k, e, h1, h2, h3⟩ := wi_n (a := 0) (b := 255) hw
    obtain ⟨c1, c2⟩ := chr k (by omega)
    by_cases hn : n = 120
    · refine q_no (r := 0) (k := 2) (e := 3) hi ?_ (by omega) rfl ?_
      · unfold fX5_append
        rw [hc, gClI, gDemT, t1, gLtI, hn]
        rfl
      · unfold fX6_append
        rw [hm, gClI, gLtI, t2, iB0, if_pos rfl, gLtI, hn, if_pos (by decide)]
        dsimp only
        rw [r_no (by decide), gClI, if_neg (by decide)]
    · obtain ⟨m1, hm1⟩ : ∃ m1, m1 = upd (upd m (8 + n) (i3 k)) (6 + 1) (i3 (n + 1)) := ⟨_, rfl⟩
      have a1' : upd m (8 + n) (i3 k) (6 + 1) = i3 n := by rw [upd_n (by omega)]; exact t1
      have kc : fX5_append a1 m = some (m1, 0, i3 (n + 1)) := by
        unfold fX5_append
        rw [hc, gClI, gDemT, t1, gLtI, n120, iLe (by omega) (by omega), if_neg (by omega), gLtI, ← bIt, gDemT, e, c1]
        unfold fX4_add
        rw [t1, gLtI, c2, gWrI (by omega) (by omega), a1', gLtI, n1, i3a, gLtI, upd_s, gLtI, gClI, hm1]
      obtain ⟨m2, hm2⟩ : ∃ m2, m2 = upd m1 (5693 + 0) 0 := ⟨_, rfl⟩
      have b1 : m1 (5693 + 2) = i3 n := by
        rw [hm1, upd_n (by omega), upd_n (by omega)]
        exact t2
      have b2 : m2 (5693 + 2) = i3 n := by
        rw [hm2, upd_n (by omega)]
        exact b1
      obtain ⟨m3, hm3⟩ : ∃ m3, m3 = upd (upd m2 (5704 + n) (i3 k)) (5693 + 2) (i3 (n + 1)) := ⟨_, rfl⟩
      have hmm : fX6_in a1.toInt64 0 255 m1 = some (m1, bI true) := by rw [m_inI, ← hw]; rfl
      have km : fX6_append a1 m1 = some (m3, i3 (n + 1)) := by
        unfold fX6_append
        have b3 : upd m2 (5704 + n) (i3 k) (5693 + 2) = i3 n := by rw [upd_n (by omega)]; exact b2
        rw [hmm, gClI, gLtI, b1, iB0, if_pos rfl, gLtI, n120, iEq (by omega) (by omega), if_neg hn]
        dsimp only
        rw [r_ok, gClI, if_pos rfl, ← hm2, b2, gLtI, e, gWrI (by omega) (by omega), b3, gLtI, n1, i3a, gLtI, upd_s, gLtI, hm3]
      refine ⟨m3, ok0 kc km ?_, hi.tx (n := n + 1) (f := up f n k) (fun x x1 x2 x3 x4 x5 => ?_) ⟨?_, ?_, by omega, fun i hi => ?_⟩⟩
      · rw [hm3, upd_n (by omega), upd_n (by omega), hm2, upd_s]
      · have x6 : x ≠ 5693 := fun e => x1 (by unfold scr; omega)
        rw [hm3, upd_n (by omega), upd_n (by omega), hm2, upd_n (by omega), hm1, upd_n (by omega), upd_n (by omega)]
      · rw [hm3, upd_n (by omega), upd_n (by omega), hm2, upd_n (by omega), hm1, upd_s]
      · rw [hm3, upd_s]
      · by_cases q : i = n
        · subst q
          rw [up_s]
          refine ⟨?_, ?_, by omega⟩
          · rw [hm3, upd_n (by omega), upd_n (by omega), hm2, upd_n (by omega), hm1, upd_n (by omega), upd_s]
          · rw [hm3, upd_n (by omega), upd_s]
        · obtain ⟨u1, u2, u3⟩ := t4 i (by omega)
          rw [up_n q]
          refine ⟨?_, ?_, u3⟩
          · rw [hm3, upd_n (by omega), upd_n (by omega), hm2, upd_n (by omega), hm1, upd_n (by omega), upd_n (by omega)]
            exact u1
          · rw [hm3, upd_n (by omega), upd_n (by omega), hm2, upd_n (by omega), hm1, upd_n (by omega), upd_n (by omega)]
            exact u2
theorem g1 : gP1 Inv := by
  intro T m hT hi
  obtain ⟨n, f, ht⟩ := hi.t
  obtain ⟨t1, t2, t3, t4⟩ := ht
  obtain ⟨m1, hm1⟩ : ∃ m1, m1 = upd m (6 + 1) 0 := ⟨_, rfl⟩
  obtain ⟨m2, hm2⟩ : ∃ m2, m2 = upd m1 (5693 + 0) 0 := ⟨_, rfl⟩
  have b2 : m2 (5693 + 2) = i3 n := by
    rw [hm2, upd_n (by omega), hm1, upd_n (by omega)]
    exact t2
  refine ⟨upd m2 (5693 + 2) 0, ⟨m1, i3 n, ?_, ?_⟩, hi.tx (n := 0) (f := fun _ => 0) (fun x x1 x2 x3 x4 x5 => ?_) ⟨?_, ?_, by omega, fun i hi => absurd hi (by omega)⟩⟩
  · unfold fX5_clearText fX4_empty
    rw [t1, gLtI, gLtI, gClI, hm1]
  · show fX6_clearText m1 = _
    unfold fX6_clearText
    rw [← hm2, gLtI, b2, gLtI, gLtI]
  · have x6 : x ≠ 5693 := fun e => x1 (by unfold scr; omega)
    rw [upd_n (by omega), hm2, upd_n (by omega), hm1, upd_n (by omega)]
  · rw [upd_n (by omega), hm2, upd_n (by omega), hm1]
    exact upd_z rfl
  · exact upd_z rfl
