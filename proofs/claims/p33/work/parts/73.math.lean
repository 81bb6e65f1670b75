/-! what a day does, customer by customer -/
def ls (f : Nat → Nat) : List Nat → Nat
  | [] => 0
  | x :: xs => f x + ls f xs
theorem ls_app (f : Nat → Nat) : ∀ a b, ls f (a ++ b) = ls f a + ls f b
  | [], b => by simp [ls]
  | x :: a, b => by
    show f x + ls f (a ++ b) = f x + ls f a + ls f b
    rw [ls_app f a b]
    omega
theorem ls_rnd {B : Nat} {S : gB} (h : Is B S) (f : Nat → Nat) : ls f (rnd S) = sm f (S.1 0) := by
  have L : ∀ k, k ≤ S.1 0 → ls f (lst S 0 0 k) + ls f (lst S 1 0 k) + ls f (lst S 2 0 k) + ls f (lst S 3 0 k) = sm f k := by
    intro k
    induction k with
    | zero => intro _; rfl
    | succ k ih =>
      intro hk
      have i1 := ih (by omega)
      have hs := (h.cust (c := k) (by omega)).1
      have e : sm f (k + 1) = sm f k + f k := rfl
      simp only [lst_snoc, ls_app, Nat.zero_add]
      rcases perm4 h.2.2.2.1 hs with q | q | q | q
      · rw [if_pos q.1, if_neg q.2.1, if_neg q.2.2.1, if_neg q.2.2.2]
        simp only [ls]
        omega
      · rw [if_neg q.1, if_pos q.2.1, if_neg q.2.2.1, if_neg q.2.2.2]
        simp only [ls]
        omega
      · rw [if_neg q.1, if_neg q.2.1, if_pos q.2.2.1, if_neg q.2.2.2]
        simp only [ls]
        omega
      · rw [if_neg q.1, if_neg q.2.1, if_neg q.2.2.1, if_pos q.2.2.2]
        simp only [ls]
        omega
  have h1 := L (S.1 0) (Nat.le_refl _)
  rw [rnd_eq]
  simp only [ls_app, ls]
  omega
theorem lst_nd (S : gB) (p : Nat) : ∀ j c, (lst S p c j).Nodup
  | 0, c => List.nodup_nil
  | j + 1, c => by
    unfold lst
    have ih := lst_nd S p j (c + 1)
    split
    · refine List.nodup_cons.mpr ⟨fun q => ?_, ih⟩
      have := ((lst_mem S p j (c + 1) c).mp q).1
      omega
    · exact ih
theorem nd_app {a b : List Nat} (ha : a.Nodup) (hb : b.Nodup) (h : ∀ x, x ∈ a → x ∈ b → False) : (a ++ b).Nodup := by
  induction a with
  | nil => exact hb
  | cons x a ih =>
    have hx := List.nodup_cons.mp ha
    show (x :: (a ++ b)).Nodup
    refine List.nodup_cons.mpr ⟨fun q => ?_, ih hx.2 (fun y h1 h2 => h y (List.mem_cons_of_mem _ h1) h2)⟩
    rcases List.mem_append.mp q with q | q
    · exact hx.1 q
    · exact h x List.mem_cons_self q
theorem rnd_nd {B : Nat} {S : gB} (h : Is B S) : (rnd S).Nodup := by
  have ho := h.2.2.2.1
  rw [rnd_eq]
  have d : ∀ p q : Nat, S.1 (16 + p) ≠ S.1 (16 + q) → ∀ x, x ∈ lst S p 0 (S.1 0) → x ∈ lst S q 0 (S.1 0) → False := fun p q hpq x h1 h2 => by
    have e1 := ((lst_mem S p (S.1 0) 0 x).mp h1).2.2
    have e2 := ((lst_mem S q (S.1 0) 0 x).mp h2).2.2
    exact hpq (e1.symm.trans e2)
  refine nd_app (lst_nd _ _ _ _) (nd_app (lst_nd _ _ _ _) (nd_app (lst_nd _ _ _ _) (nd_app (lst_nd _ _ _ _) List.nodup_nil (fun x _ q => by cases q)) (fun x h1 h2 => ?_)) (fun x h1 h2 => ?_)) (fun x h1 h2 => ?_)
  · simp only [List.append_nil] at h2
    exact d 2 3 ho.2.2.2.2.2.2.2.2.2 x h1 h2
  · simp only [List.append_nil, List.mem_append] at h2
    rcases h2 with h2 | h2
    · exact d 1 2 ho.2.2.2.2.2.2.2.1 x h1 h2
    · exact d 1 3 ho.2.2.2.2.2.2.2.2.1 x h1 h2
  · simp only [List.append_nil, List.mem_append] at h2
    rcases h2 with h2 | h2 | h2
    · exact d 0 1 ho.2.2.2.2.1 x h1 h2
    · exact d 0 2 ho.2.2.2.2.2.1 x h1 h2
    · exact d 0 3 ho.2.2.2.2.2.2.1 x h1 h2
/-- what a customer gets, at the door, of what is in the van -/
def gtV (S : gB) (d van c : Nat) : Nat := if op S c d = true then min (du S c d) van else 0
theorem stD_at (S : gB) (d : Nat) (D : gB) (van c : Nat) : (stD S d (D, van) c).2 = van - gtV S d van c ∧ (stD S d (D, van) c).1.2 c 9 = D.2 c 9 + gtV S d van c ∧ (∀ i, i ≠ c → (stD S d (D, van) c).1.2 i = D.2 i) ∧ (stD S d (D, van) c).1.1 7 = D.1 7 + du S c d * S.1 15 ∧ (stD S d (D, van) c).1.1 10 = D.1 10 + (if 0 < gtV S d van c ∧ gtV S d van c < du S c d then 1 else 0) := by
  obtain ⟨g, hg⟩ : ∃ g, g = gtV S d van c := ⟨_, rfl⟩
  obtain ⟨mi, hmi⟩ : ∃ mi, mi = if 0 < du S c d ∧ g = 0 then 1 else 0 := ⟨_, rfl⟩
  obtain ⟨la, hla⟩ : ∃ la, la = if 0 < g ∧ g < du S c d then 1 else 0 := ⟨_, rfl⟩
  rw [stD_eq (g := g) (mi := mi) (la := la) hg hmi hla, ← hg, ← hla]
  refine ⟨rfl, ?_, fun i hi => ?_, ?_, ?_⟩
  · simp [sH, sC, up]
  · simp [sH, sC, up, hi]
  · simp [sH, sC, up]
  · simp [sH, sC, up]
section FD
variable {S : gB} {d : Nat}
theorem fD_c : ∀ (xs : List Nat) (D : gB) (van c : Nat), c ∉ xs → (xs.foldl (stD S d) (D, van)).1.2 c = D.2 c
  | [], D, van, c, _ => rfl
  | x :: xs, D, van, c, h => by
    obtain ⟨h1, h2, h3, h4, h5⟩ := stD_at S d D van x
    have hx : c ≠ x := fun q => h (q ▸ List.mem_cons_self)
    rw [List.foldl_cons, show stD S d (D, van) x = ((stD S d (D, van) x).1, (stD S d (D, van) x).2) from rfl, fD_c xs _ _ c (fun q => h (List.mem_cons_of_mem _ q)), h3 c hx]
theorem fD_got : ∀ (xs : List Nat) (D : gB) (van c : Nat), c ∈ xs → xs.Nodup → (xs.foldl (stD S d) (D, van)).1.2 c 9 = D.2 c 9 + gtV S d (lbf S d c xs van) c
  | [], D, van, c, h, _ => by cases h
  | x :: xs, D, van, c, h, hn => by
    obtain ⟨h1, h2, h3, h4, h5⟩ := stD_at S d D van x
    have hn2 := List.nodup_cons.mp hn
    rw [List.foldl_cons, show stD S d (D, van) x = ((stD S d (D, van) x).1, (stD S d (D, van) x).2) from rfl]
    unfold lbf
    by_cases e : x = c
    · subst e
      rw [if_pos rfl, fD_c xs _ _ x hn2.1, h2]
    · rw [if_neg e]
      have hc : c ∈ xs := by
        rcases List.mem_cons.mp h with q | q
        · exact absurd q.symm e
        · exact q
      rw [fD_got xs _ _ c hc hn2.2, h3 c (fun q => e q.symm), h1]
      congr 2
      unfold gtV
      split
      · rw [Nat.min_comm]
      · rfl
theorem fD_7 : ∀ (xs : List Nat) (D : gB) (van : Nat), (xs.foldl (stD S d) (D, van)).1.1 7 = D.1 7 + ls (fun c => du S c d) xs * S.1 15
  | [], D, van => by simp [ls]
  | x :: xs, D, van => by
    obtain ⟨h1, h2, h3, h4, h5⟩ := stD_at S d D van x
    rw [List.foldl_cons, show stD S d (D, van) x = ((stD S d (D, van) x).1, (stD S d (D, van) x).2) from rfl, fD_7 xs, h4]
    show _ = D.1 7 + (du S x d + ls (fun c => du S c d) xs) * S.1 15
    rw [Nat.add_mul]
    omega
/-- what is due in open streets -/
def opf (S : gB) (d c : Nat) : Nat := if op S c d = true then du S c d else 0
theorem gtV_le (van c : Nat) : gtV S d van c ≤ opf S d c ∧ gtV S d van c ≤ van := by
  unfold gtV opf
  split <;> omega
theorem fD_10 : ∀ (xs : List Nat) (D : gB) (van : Nat), ls (opf S d) xs ≤ van → (xs.foldl (stD S d) (D, van)).1.1 10 = D.1 10
  | [], D, van, _ => rfl
  | x :: xs, D, van, h => by
    obtain ⟨h1, h2, h3, h4, h5⟩ := stD_at S d D van x
    have hl : opf S d x + ls (opf S d) xs ≤ van := h
    have hg := gtV_le (S := S) (d := d) van x
    have h0 : ¬ (0 < gtV S d van x ∧ gtV S d van x < du S x d) := by
      unfold gtV
      unfold opf at hl
      split
      · rename_i ho
        rw [if_pos ho] at hl
        omega
      · omega
    rw [List.foldl_cons, show stD S d (D, van) x = ((stD S d (D, van) x).1, (stD S d (D, van) x).2) from rfl, fD_10 xs _ _ (by omega), h5, if_neg h0]
    rfl
theorem lbf_ge : ∀ (xs : List Nat) (van c : Nat), c ∈ xs → ls (opf S d) xs ≤ van → opf S d c ≤ lbf S d c xs van
  | [], van, c, h, _ => by cases h
  | x :: xs, van, c, h, hl => by
    have hl2 : opf S d x + ls (opf S d) xs ≤ van := hl
    unfold lbf
    by_cases e : x = c
    · subst e
      rw [if_pos rfl]
      omega
    · rw [if_neg e]
      have hc : c ∈ xs := by
        rcases List.mem_cons.mp h with q | q
        · exact absurd q.symm e
        · exact q
      refine lbf_ge xs _ c hc ?_
      unfold opf at hl2 ⊢
      split
      · rename_i ho
        rw [if_pos ho] at hl2
        omega
      · omega
theorem fG_9 : ∀ (xs : List Nat) (D : gB) (van c : Nat), (xs.foldl (stG S d) (D, van)).1.2 c 9 = D.2 c 9
  | [], D, van, c => rfl
  | x :: xs, D, van, c => by
    rw [List.foldl_cons, show stG S d (D, van) x = ((stG S d (D, van) x).1, (stG S d (D, van) x).2) from rfl, fG_9 xs]
    obtain ⟨g, h1, h2, h3, h4, h5, h6, h7, h8, h9⟩ := stG_spec S d D van x
    by_cases e : c = x
    · subst e
      exact h9 9 (by omega) (by omega)
    · rw [h6 c e]
theorem fP_9 : ∀ (xs : List Nat) (D : gB) (c : Nat), (xs.foldl (stP S) D).2 c 9 = D.2 c 9
  | [], D, c => rfl
  | x :: xs, D, c => by
    rw [List.foldl_cons, fP_9 xs]
    obtain ⟨g, h1, h2, h3, h4, h5, h6, h7, h8⟩ := stP_spec S D x
    by_cases e : c = x
    · subst e
      exact h8 9 (by omega) (by omega)
    · rw [h5 c e]
theorem fP_68 : ∀ (xs : List Nat) (D : gB), ∃ k, (xs.foldl (stP S) D).1 6 = D.1 6 + k ∧ (xs.foldl (stP S) D).1 8 = D.1 8 + k * S.1 15 ∧ ∀ i, i ≠ 6 → i ≠ 8 → (xs.foldl (stP S) D).1 i = D.1 i
  | [], D => ⟨0, by simp⟩
  | x :: xs, D => by
    obtain ⟨g, h1, h2, h3, h4, h5, h6, h7, h8⟩ := stP_spec S D x
    obtain ⟨k, k1, k2, k3⟩ := fP_68 xs (stP S D x)
    refine ⟨g + k, ?_, ?_, fun i a b => ?_⟩
    · rw [List.foldl_cons, k1, h2]
      omega
    · rw [List.foldl_cons, k2, h3, Nat.add_mul]
      omega
    · rw [List.foldl_cons, k3 i a b, h4 i a b]
end FD
/-- a day, told by what it brings -/
theorem day_all {B : Nat} {S D : gB} (hI : Is B S) (hD : Id (S.1 0) D) : (∀ c, c < S.1 0 → (dayD S D).2 c 9 = D.2 c 9 + gtV S (S.1 1) (lbf S (S.1 1) c (rnd S) (bk S (S.1 1))) c ∧ (dayD S D).2 c 8 ≤ S.1 14) ∧ (dayD S D).1 7 = D.1 7 + aldu S (S.1 1) * S.1 15 ∧ (∃ k, (dayD S D).1 6 = D.1 6 + k ∧ (dayD S D).1 8 = D.1 8 + k * S.1 15) ∧ (opdu S (S.1 1) ≤ bk S (S.1 1) → (dayD S D).1 10 = D.1 10) ∧ (D.1 2 = D.1 3 + D.1 4 + D.1 5 → (dayD S D).1 2 = (dayD S D).1 3 + (dayD S D).1 4 + (dayD S D).1 5) := by
  have hm : ∀ c ∈ rnd S, c < S.1 0 := fun c hc => (rnd_mem hI c).mp hc
  have h0 : Sms (S.1 0) (sH D 2 (D.1 2 + bk S (S.1 1))) := by
    obtain ⟨a1, a2, a3, a4, a5⟩ := hD.2
    refine ⟨?_, ?_, ?_, ?_, ?_⟩ <;> simp [sH, up] <;> assumption
  obtain ⟨d1, d2, d3, d4, d5⟩ := foldD hI (S.1 1) (rnd S) hm (sH D 2 (D.1 2 + bk S (S.1 1))) (bk S (S.1 1)) 30 h0 (fun c hc => hD.1 c hc)
  have q9 : ∀ c, c < S.1 0 → _ := fun c hc => fD_got (S := S) (d := S.1 1) (rnd S) (sH D 2 (D.1 2 + bk S (S.1 1))) (bk S (S.1 1)) c ((rnd_mem hI c).mpr hc) (rnd_nd hI)
  have q7 := fD_7 (S := S) (d := S.1 1) (rnd S) (sH D 2 (D.1 2 + bk S (S.1 1))) (bk S (S.1 1))
  have q10 := fD_10 (S := S) (d := S.1 1) (rnd S) (sH D 2 (D.1 2 + bk S (S.1 1))) (bk S (S.1 1))
  obtain ⟨z, hz⟩ : ∃ z, z = (rnd S).foldl (stD S (S.1 1)) (sH D 2 (D.1 2 + bk S (S.1 1)), bk S (S.1 1)) := ⟨_, rfl⟩
  rw [← hz] at d1 d2 d3 d4 d5 q9 q7 q10
  obtain ⟨g1, g2, g3, g4, g5⟩ := foldG (S.1 1) (rnd S) hm z.1 z.2 _ d1 d2
  have r9 := fun c => fG_9 (S := S) (d := S.1 1) (rnd S) z.1 z.2 c
  obtain ⟨y, hy⟩ : ∃ y, y = (rnd S).foldl (stG S (S.1 1)) (z.1, z.2) := ⟨_, rfl⟩
  rw [← hy] at g1 g2 g3 g4 g5 r9
  have h5 : Sms (S.1 0) (sH y.1 5 (y.1.1 5 + y.2)) := by
    obtain ⟨a1, a2, a3, a4, a5⟩ := g1
    refine ⟨?_, ?_, ?_, ?_, ?_⟩ <;> simp [sH, up] <;> assumption
  obtain ⟨p1, p2, p3⟩ := foldP (S.1 0) 0 (sH y.1 5 (y.1.1 5 + y.2)) (by omega) h5 (fun i hi => absurd hi (by omega))
  have s9 := fun c => fP_9 (S := S) (List.range' 0 (S.1 0)) (sH y.1 5 (y.1.1 5 + y.2)) c
  obtain ⟨k, k6, k8, k0⟩ := fP_68 (S := S) (List.range' 0 (S.1 0)) (sH y.1 5 (y.1.1 5 + y.2))
  have e : dayD S D = (List.range' 0 (S.1 0)).foldl (stP S) (sH y.1 5 (y.1.1 5 + y.2)) := by
    rw [dayD_eq, ← hz, hy]
  rw [← e] at p1 p2 p3 s9 k6 k8 k0
  have u : ∀ (Z : gB) (i j v : Nat), i ≠ j → (sH Z j v).1 i = Z.1 i := fun Z i j v h => up_n h
  have us : ∀ (Z : gB) (j v : Nat), (sH Z j v).1 j = v := fun Z j v => up_s
  have hl := ls_rnd hI (fun c => du S c (S.1 1))
  have ho := ls_rnd hI (opf S (S.1 1))
  refine ⟨fun c hc => ⟨?_, p2 c hc⟩, ?_, ⟨k, ?_, ?_⟩, fun hle => ?_, fun hb => ?_⟩
  · rw [s9 c]
    show y.1.2 c 9 = _
    rw [r9 c, q9 c hc]
    rfl
  · rw [p3 7 (by omega) (by omega), u _ 7 5 _ (by omega), g5 7 (by omega), q7, u _ 7 2 _ (by omega), hl]
    rfl
  · rw [k6, u _ 6 5 _ (by omega), g5 6 (by omega), d5 6 (by omega) (by omega) (by omega) (by omega), u _ 6 2 _ (by omega)]
  · rw [k8, u _ 8 5 _ (by omega), g5 8 (by omega), d5 8 (by omega) (by omega) (by omega) (by omega), u _ 8 2 _ (by omega)]
  · rw [p3 10 (by omega) (by omega), u _ 10 5 _ (by omega), g5 10 (by omega), q10 (by rw [ho]; exact hle), u _ 10 2 _ (by omega)]
  · rw [p3 2 (by omega) (by omega), p3 3 (by omega) (by omega), p3 4 (by omega) (by omega), p3 5 (by omega) (by omega), us, u _ 2 5 _ (by omega), u _ 3 5 _ (by omega), u _ 4 5 _ (by omega), g5 2 (by omega), g5 3 (by omega), g5 5 (by omega), d5 2 (by omega) (by omega) (by omega) (by omega), d5 5 (by omega) (by omega) (by omega) (by omega), us, u _ 5 2 _ (by omega)]
    rw [u _ 3 2 _ (by omega)] at d4
    have e4 : z.1.1 4 = D.1 4 := by rw [d5 4 (by omega) (by omega) (by omega) (by omega), u _ 4 2 _ (by omega)]
    omega
/-! why, and what is got -/
theorem why_all {B : Nat} {S : gB} (hI : Is B S) {c : Nat} (hc : c < S.1 0) : ∃ k : Nat, whyV S c = i3 k ∧ k ≤ 5 ∧ (k = 0 → gtV S (S.1 1) (lbf S (S.1 1) c (rnd S) (bk S (S.1 1))) c = du S c (S.1 1) ∧ 0 < du S c (S.1 1)) ∧ (k = 5 → 0 < gtV S (S.1 1) (lbf S (S.1 1) c (rnd S) (bk S (S.1 1))) c ∧ gtV S (S.1 1) (lbf S (S.1 1) c (rnd S) (bk S (S.1 1))) c < du S c (S.1 1)) ∧ (k ≠ 0 → k ≠ 5 → gtV S (S.1 1) (lbf S (S.1 1) c (rnd S) (bk S (S.1 1))) c = 0) ∧ (du S c (S.1 1) = 0 → k = 1 ∨ k = 2) ∧ (0 < du S c (S.1 1) → k ≠ 1 ∧ k ≠ 2) ∧ (op S c (S.1 1) = false → 1 ≤ k ∧ k ≤ 3) ∧ (opdu S (S.1 1) ≤ bk S (S.1 1) → k ≠ 4 ∧ k ≠ 5) := by
  unfold whyV gtV
  rw [List.drop_zero]
  obtain ⟨v, hv⟩ : ∃ v, v = lbf S (S.1 1) c (rnd S) (bk S (S.1 1)) := ⟨_, rfl⟩
  have hge : opdu S (S.1 1) ≤ bk S (S.1 1) → opf S (S.1 1) c ≤ v := fun h => by
    rw [hv]
    refine lbf_ge _ _ _ ((rnd_mem hI c).mpr hc) ?_
    rw [ls_rnd hI]
    exact h
  rw [← hv]
  have hdu : du S c (S.1 1) = if aw S c (S.1 1) = true then 0 else S.2 c (1 + S.1 1 % 7) := rfl
  unfold opf at hge
  by_cases q1 : S.2 c (1 + S.1 1 % 7) = 0
  · have hd0 : du S c (S.1 1) = 0 := by rw [hdu]; split <;> omega
    rw [if_pos q1, hd0]
    exact ⟨1, rfl, by omega, by omega, by omega, fun _ _ => by split <;> omega, by omega, by omega, by omega, by omega⟩
  · rw [if_neg q1]
    cases q2 : aw S c (S.1 1) with
    | true =>
      have hd0 : du S c (S.1 1) = 0 := by rw [hdu, q2]; rfl
      rw [if_pos rfl, hd0]
      exact ⟨2, rfl, by omega, by omega, by omega, fun _ _ => by split <;> omega, by omega, by omega, by omega, by omega⟩
    | false =>
      have hd0 : 0 < du S c (S.1 1) := by rw [hdu, q2, if_neg (by decide)]; omega
      rw [if_neg (by decide)]
      cases q3 : op S c (S.1 1) with
      | false =>
        rw [if_pos rfl, if_neg (by decide)]
        exact ⟨3, rfl, by omega, by omega, by omega, fun _ _ => rfl, by omega, by omega, by omega, by omega⟩
      | true =>
        rw [if_neg (by decide), if_pos rfl]
        rw [q3, if_pos rfl] at hge
        by_cases q4 : v = 0
        · rw [if_pos q4]
          exact ⟨4, rfl, by omega, by omega, by omega, fun _ _ => by omega, by omega, by omega, fun h => (by cases h), by omega⟩
        · rw [if_neg q4]
          by_cases q5 : du S c (S.1 1) ≤ v
          · rw [if_pos q5]
            exact ⟨0, rfl, by omega, by omega, by omega, by omega, by omega, by omega, fun h => (by cases h), by omega⟩
          · rw [if_neg q5]
            exact ⟨5, rfl, by omega, by omega, by omega, by omega, by omega, by omega, fun h => (by cases h), by omega⟩
/-! days -/
theorem daysZ_add (a : Nat) : ∀ (b : Nat) (z : gB × gB), daysZ b (daysZ a z) = daysZ (a + b) z
  | 0, z => rfl
  | b + 1, z => by
    rw [daysZ_S b, daysZ_add a b z, ← Nat.add_assoc, daysZ_S (a + b)]
theorem daysZ_st : ∀ (k : Nat) (z : gB × gB), (daysZ k z).1.1 1 = z.1.1 1 + k ∧ (∀ i, i ≠ 1 → (daysZ k z).1.1 i = z.1.1 i) ∧ (daysZ k z).1.2 = z.1.2
  | 0, z => ⟨rfl, fun _ _ => rfl, rfl⟩
  | k + 1, z => by
    obtain ⟨h1, h2, h3⟩ := daysZ_st k z
    rw [daysZ_S]
    refine ⟨?_, fun i hi => ?_, h3⟩
    · show (sH _ 1 _).1 1 = _
      rw [show (sH (daysZ k z).1 1 ((daysZ k z).1.1 1 + 1)).1 1 = (daysZ k z).1.1 1 + 1 from (up_s : up (daysZ k z).1.1 1 ((daysZ k z).1.1 1 + 1) 1 = _), h1]
      omega
    · exact (up_n hi).trans (h2 i hi)
def Bal (z : gB × gB) : Prop := z.2.1 2 = z.2.1 3 + z.2.1 4 + z.2.1 5
theorem Bal.days {B : Nat} {z : gB × gB} (hI : Iv B z.1 z.2) (h : Bal z) : ∀ k, Bal (daysZ k z)
  | 0 => h
  | k + 1 => by
    have hv := (hI.days k).1
    rw [daysZ_S]
    exact (day_all hv.1 hv.2).2.2.2.2 (Bal.days hI h k)
/-- what hangs on days' weekdays, orders, holidays and closed streets alone -/
theorem opdu_eq {S S' : gB} (h0 : S'.1 0 = S.1 0) (h1 : ∀ i, 20 ≤ i → S'.1 i = S.1 i) (h2 : S'.2 = S.2) (d : Nat) : opdu S' d = opdu S d ∧ aldu S' d = aldu S d := by
  have e1 : ∀ c, du S' c d = du S c d := fun c => by
    unfold du aw
    rw [h2]
  have e2 : ∀ c, op S' c d = op S c d := fun c => by
    unfold op
    rw [h2, h1 _ (by omega)]
  refine ⟨?_, ?_⟩
  · unfold opdu
    rw [h0]
    exact sm_congr (fun c _ => by rw [e1, e2])
  · unfold aldu
    rw [h0]
    exact sm_congr (fun c _ => e1 c)
theorem opdu_aldu (S : gB) (d : Nat) : opdu S d ≤ aldu S d := by
  unfold opdu aldu
  generalize S.1 0 = n
  induction n with
  | zero => exact Nat.le_refl _
  | succ n ih =>
    show sm _ n + (if op S n d = true then du S n d else 0) ≤ sm _ n + du S n d
    have : (if op S n d = true then du S n d else 0) ≤ du S n d := by split <;> omega
    omega
theorem lov_ge (S : gB) : ∀ (j d mx : Nat), mx ≤ lov S j d mx ∧ ∀ d', d ≤ d' → d' < d + j → opdu S d' ≤ lov S j d mx
  | 0, d, mx => ⟨Nat.le_refl _, fun d' h1 h2 => by omega⟩
  | j + 1, d, mx => by
    obtain ⟨h1, h2⟩ := lov_ge S j (d + 1) (max mx (opdu S d))
    have e : lov S (j + 1) d mx = lov S j (d + 1) (max mx (opdu S d)) := rfl
    rw [e]
    refine ⟨by omega, fun d' k1 k2 => ?_⟩
    by_cases c : d' = d
    · subst c
      omega
    · exact h2 d' (by omega) (by omega)
theorem lov_eq {S S' : gB} (h : ∀ d, opdu S' d = opdu S d) : ∀ (j d mx : Nat), lov S' j d mx = lov S j d mx
  | 0, d, mx => rfl
  | j + 1, d, mx => by
    show lov S' j (d + 1) (max mx (opdu S' d)) = lov S j (d + 1) (max mx (opdu S d))
    rw [h d, lov_eq h j]
/-- with the least oven nothing is short in its days -/
theorem oven_ok {B n : Nat} {z : gB × gB} (hI : Iv B z.1 z.2) (ho : z.1.1 11 = lov z.1 n (z.1.1 1) 0) : (∀ k, k ≤ n → (daysZ k z).2.1 10 = z.2.1 10) ∧ (0 < n → opdu z.1 (z.1.1 1) ≤ bk z.1 (z.1.1 1)) := by
  have hb : ∀ d, z.1.1 1 ≤ d → d < z.1.1 1 + n → opdu z.1 d ≤ bk z.1 d := fun d h1 h2 => by
    have := (lov_ge z.1 n (z.1.1 1) 0).2 d h1 h2
    have h3 := opdu_aldu z.1 d
    unfold bk
    omega
  refine ⟨fun k => ?_, fun h => hb _ (Nat.le_refl _) (by omega)⟩
  induction k with
  | zero => intro _; rfl
  | succ k ih =>
    intro hk
    have i1 := ih (by omega)
    have hv := (hI.days k).1
    obtain ⟨e1, e2, e3⟩ := daysZ_st k z
    rw [daysZ_S, ← i1]
    refine (day_all hv.1 hv.2).2.2.2.1 ?_
    have q := opdu_eq (S := z.1) (S' := (daysZ k z).1) (e2 0 (by omega)) (fun i hi => e2 i (by omega)) e3
    have hb2 := hb (z.1.1 1 + k) (by omega) (by omega)
    show opdu (daysZ k z).1 ((daysZ k z).1.1 1) ≤ bk (daysZ k z).1 ((daysZ k z).1.1 1)
    rw [e1, (q _).1]
    unfold bk at hb2 ⊢
    rw [(q _).2, e2 12 (by omega), e2 11 (by omega)]
    exact hb2
/-! when a credit is made good -/
theorem clr_all (z : gB × gB) (c : Nat) : ∀ (j k : Nat), (∃ r, k ≤ r ∧ r < k + j ∧ clr z c j k = i3 r ∧ (daysZ r z).2.2 c 8 = 0 ∧ ∀ r', k ≤ r' → r' < r → (daysZ r' z).2.2 c 8 ≠ 0) ∨ (clr z c j k = -1 ∧ ∀ r', k ≤ r' → r' < k + j → (daysZ r' z).2.2 c 8 ≠ 0)
  | 0, k => Or.inr ⟨rfl, fun r' h1 h2 => by omega⟩
  | j + 1, k => by
    unfold clr
    by_cases q : (daysZ k z).2.2 c 8 = 0
    · rw [if_pos q]
      exact Or.inl ⟨k, Nat.le_refl _, by omega, rfl, q, fun r' h1 h2 => by omega⟩
    · rw [if_neg q]
      rcases clr_all z c j (k + 1) with ⟨r, h1, h2, h3, h4, h5⟩ | ⟨h1, h2⟩
      · refine Or.inl ⟨r, by omega, by omega, h3, h4, fun r' k1 k2 => ?_⟩
        by_cases e : r' = k
        · subst e
          exact q
        · exact h5 r' (by omega) k2
      · refine Or.inr ⟨h1, fun r' k1 k2 => ?_⟩
        by_cases e : r' = k
        · subst e
          exact q
        · exact h2 r' (by omega) (by omega)
theorem nxF_all (S : gB) (c : Nat) : ∀ (j d : Nat), (∃ r, d ≤ r ∧ r < d + j ∧ nxF S c j d = i3 r ∧ du S c r ≠ 0 ∧ ∀ r', d ≤ r' → r' < r → du S c r' = 0) ∨ (nxF S c j d = -1 ∧ ∀ r', d ≤ r' → r' < d + j → du S c r' = 0)
  | 0, d => Or.inr ⟨rfl, fun r' h1 h2 => by omega⟩
  | j + 1, d => by
    unfold nxF
    by_cases q : du S c d = 0
    · rw [if_pos q]
      rcases nxF_all S c j (d + 1) with ⟨r, h1, h2, h3, h4, h5⟩ | ⟨h1, h2⟩
      · refine Or.inl ⟨r, by omega, by omega, h3, h4, fun r' k1 k2 => ?_⟩
        by_cases e : r' = d
        · subst e
          exact q
        · exact h5 r' (by omega) k2
      · refine Or.inr ⟨h1, fun r' k1 k2 => ?_⟩
        by_cases e : r' = d
        · subst e
          exact q
        · exact h2 r' (by omega) (by omega)
    · rw [if_neg q]
      exact Or.inl ⟨d, Nat.le_refl _, by omega, rfl, q, fun r' h1 h2 => by omega⟩
