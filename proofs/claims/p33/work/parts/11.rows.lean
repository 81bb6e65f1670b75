/-! rows that touch no memory -/
def gNL (Y : gY) : Nat := Y.2.2.1
theorem gV_cat (G : gX) (v : Value) : (gV G v).category = v.category := by cases v <;> rfl
theorem gPr_get {G : gX} : ∀ {ls : List (Option Value)} {i j : Nat} {v : Value}, ls[i]? = some (some v) → (j + i, gV G v) ∈ gPr G j ls
  | [], i, j, v, h => by simp at h
  | x :: t, 0, j, v, h => by
    have hx : x = some v := by simpa using h
    subst hx
    exact List.mem_cons_self
  | x :: t, i + 1, j, v, h => by
    have h' : t[i]? = some (some v) := by simpa using h
    have := gPr_get (G := G) (j := j + 1) h'
    rw [show j + (i + 1) = j + 1 + i by omega]
    cases x with
    | none => exact this
    | some w => exact List.mem_cons_of_mem _ this
theorem gPr_mem {G : gX} {ls : List (Option Value)} {i : Nat} {v : Value} (h : ls[i]? = some (some v)) : (i, gV G v) ∈ gPr G 0 ls := by
  have := gPr_get (G := G) (j := 0) h
  rwa [Nat.zero_add] at this
theorem gPr_at {G : gX} {ls : List (Option Value)} {la : Array Slot} {nL i : Nat} {v : Value} (hl : lv_has la nL (gPr G 0 ls)) (h : ls[i]? = some (some v)) : la[i]? = some (.val (gV G v)) := hl.2.2 _ (gPr_mem h)
theorem gPr_inv {G : gX} : ∀ {ls : List (Option Value)} {j : Nat} {q : Nat × Value}, q ∈ gPr G j ls → ∃ (i : Nat) (v : Value), q = (j + i, gV G v) ∧ ls[i]? = some (some v)
  | [], j, q, h => by simp [gPr] at h
  | none :: t, j, q, h => by
    obtain ⟨i, v, e, hv⟩ := gPr_inv (ls := t) (j := j + 1) h
    exact ⟨i + 1, v, by rw [e]; congr 1; omega, by simpa using hv⟩
  | some w :: t, j, q, h => by
    rcases List.mem_cons.mp h with h | h
    · exact ⟨0, w, h, rfl⟩
    · obtain ⟨i, v, e, hv⟩ := gPr_inv (ls := t) (j := j + 1) h
      exact ⟨i + 1, v, by rw [e]; congr 1; omega, by simpa using hv⟩
theorem gW2_get {x : Option Value} {w : Value} (h : gW2 x = some w) : x = some w ∧ ¬ w.category = 2 := by
  cases x with
  | none => simp [gW2] at h
  | some y => cases y <;> simp [gW2] at h <;> subst h <;> exact ⟨rfl, by simp [Value.category]⟩
theorem gSet_get : ∀ {i : Nat} {v : Value} {ls : List (Option Value)} {j : Nat} {w : Value}, (gSet i (some v) ls)[j]? = some (some w) → (j = i ∧ w = v) ∨ (j ≠ i ∧ ls[j]? = some (some w) ∧ ¬ (j + 1 = i ∧ w.category = 2))
  | _, v, [], j, w, h => by simp [gSet] at h
  | 0, v, x :: t, 0, w, h => by
    simp [gSet] at h
    exact Or.inl ⟨rfl, h.symm⟩
  | 0, v, x :: t, j + 1, w, h => by
    simp [gSet] at h
    exact Or.inr ⟨by omega, by simpa using h, by omega⟩
  | 1, v, x :: t, 0, w, h => by
    have h2 := gW2_get (show gW2 x = some w by simpa [gSet] using h)
    exact Or.inr ⟨by omega, by rw [h2.1]; rfl, fun hh => h2.2 hh.2⟩
  | 1, v, x :: t, j + 1, w, h => by
    have h' : (gSet 0 (some v) t)[j]? = some (some w) := by simpa [gSet] using h
    rcases gSet_get h' with ⟨a, b⟩ | ⟨a, b, c⟩
    · exact Or.inl ⟨by omega, b⟩
    · exact Or.inr ⟨by omega, by simpa using b, by omega⟩
  | n + 2, v, x :: t, 0, w, h => Or.inr ⟨by omega, by simpa [gSet] using h, by omega⟩
  | n + 2, v, x :: t, j + 1, w, h => by
    have h' : (gSet (n + 1) (some v) t)[j]? = some (some w) := by simpa [gSet] using h
    rcases gSet_get h' with ⟨a, b⟩ | ⟨a, b, c⟩
    · exact Or.inl ⟨by omega, b⟩
    · exact Or.inr ⟨by omega, by simpa using b, fun ⟨q1, q2⟩ => c ⟨by omega, q2⟩⟩
theorem gSet2_get : ∀ {i : Nat} {v : Value} {ls : List (Option Value)} {j : Nat} {w : Value}, (gSet2 i (some v) ls)[j]? = some (some w) → (j = i ∧ w = v) ∨ (j ≠ i ∧ j ≠ i + 1 ∧ ls[j]? = some (some w) ∧ ¬ (j + 1 = i ∧ w.category = 2))
  | _, v, [], j, w, h => by simp [gSet2] at h
  | 0, v, x :: t, 0, w, h => by
    simp [gSet2] at h
    exact Or.inl ⟨rfl, h.symm⟩
  | 0, v, [x], j + 1, w, h => by simp [gSet2] at h
  | 0, v, x :: y :: t, 1, w, h => by simp [gSet2] at h
  | 0, v, x :: y :: t, j + 2, w, h => by
    simp [gSet2] at h
    exact Or.inr ⟨by omega, by omega, by simpa using h, by omega⟩
  | 1, v, x :: t, 0, w, h => by
    have h2 := gW2_get (show gW2 x = some w by simpa [gSet2] using h)
    exact Or.inr ⟨by omega, by omega, by rw [h2.1]; rfl, fun hh => h2.2 hh.2⟩
  | 1, v, x :: t, j + 1, w, h => by
    have h' : (gSet2 0 (some v) t)[j]? = some (some w) := by simpa [gSet2] using h
    rcases gSet2_get h' with ⟨a, b⟩ | ⟨a, a2, b, c⟩
    · exact Or.inl ⟨by omega, b⟩
    · exact Or.inr ⟨by omega, by omega, by simpa using b, by omega⟩
  | n + 2, v, x :: t, 0, w, h => Or.inr ⟨by omega, by omega, by simpa [gSet2] using h, by omega⟩
  | n + 2, v, x :: t, j + 1, w, h => by
    have h' : (gSet2 (n + 1) (some v) t)[j]? = some (some w) := by simpa [gSet2] using h
    rcases gSet2_get h' with ⟨a, b⟩ | ⟨a, a2, b, c⟩
    · exact Or.inl ⟨by omega, b⟩
    · exact Or.inr ⟨by omega, by omega, by simpa using b, fun ⟨q1, q2⟩ => c ⟨by omega, q2⟩⟩
theorem gS1_has {G : gX} {i nL : Nat} {v : Value} {z : Value} {la : Array Slot} {ls : List (Option Value)} (hz : gV G v = z) (h : lv_has la nL ((i, z) :: (gPr G 0 ls).filter (fun q => !(q.1 == i) && !(q.1 + 1 == i && q.2.category == 2)))) : lv_has la nL (gPr G 0 (gSet i (some v) ls)) := by
  subst hz
  refine ⟨h.1, h.2.1, fun q hq => h.2.2 q ?_⟩
  obtain ⟨j, w, e, hw⟩ := gPr_inv hq
  subst e
  rw [Nat.zero_add]
  rcases gSet_get hw with ⟨a, b⟩ | ⟨a, b, c⟩
  · subst a
    subst b
    exact List.mem_cons_self
  · refine List.mem_cons_of_mem _ (List.mem_filter.mpr ⟨gPr_mem b, ?_⟩)
    have c1 : (j == i) = false := by simpa using a
    by_cases h1 : j + 1 = i
    · have c2 : (w.category == 2) = false := by simpa using fun h2 => c ⟨h1, h2⟩
      simp [c1, gV_cat, c2]
    · have c2 : (j + 1 == i) = false := by simpa using h1
      simp [c1, c2]
theorem gS2_has {G : gX} {i nL : Nat} {v : Value} {z : Value} {la : Array Slot} {ls : List (Option Value)} (hz : gV G v = z) (h : lv_has la nL ((i, z) :: (gPr G 0 ls).filter (fun q => !(q.1 == i) && (!(q.1 == i + 1) && !(q.1 + 1 == i && q.2.category == 2))))) : lv_has la nL (gPr G 0 (gSet2 i (some v) ls)) := by
  subst hz
  refine ⟨h.1, h.2.1, fun q hq => h.2.2 q ?_⟩
  obtain ⟨j, w, e, hw⟩ := gPr_inv hq
  subst e
  rw [Nat.zero_add]
  rcases gSet2_get hw with ⟨a, b⟩ | ⟨a, a2, b, c⟩
  · subst a
    subst b
    exact List.mem_cons_self
  · refine List.mem_cons_of_mem _ (List.mem_filter.mpr ⟨gPr_mem b, ?_⟩)
    have c1 : (j == i) = false := by simpa using a
    have c3 : (j == i + 1) = false := by simpa using a2
    by_cases h1 : j + 1 = i
    · have c2 : (w.category == 2) = false := by simpa using fun h2 => c ⟨h1, h2⟩
      simp [c1, c3, gV_cat, c2]
    · have c2 : (j + 1 == i) = false := by simpa using h1
      simp [c1, c3, c2]
theorem gMask_get : ∀ {bs : List Bool} {ls : List (Option Value)} {j : Nat} {w : Value}, (gMask bs ls)[j]? = some (some w) → ls[j]? = some (some w)
  | [], ls, j, w, h => by simp [gMask] at h
  | b :: bs, [], j, w, h => by cases b <;> simp [gMask] at h
  | true :: bs, x :: t, 0, w, h => by simpa [gMask] using h
  | false :: bs, x :: t, 0, w, h => by simp [gMask] at h
  | true :: bs, x :: t, j + 1, w, h => by
    have h' : (gMask bs t)[j]? = some (some w) := by simpa [gMask] using h
    simpa using gMask_get h'
  | false :: bs, x :: t, j + 1, w, h => by
    have h' : (gMask bs t)[j]? = some (some w) := by simpa [gMask] using h
    simpa using gMask_get h'
theorem gMask_has {G : gX} {nL : Nat} {la : Array Slot} {ls : List (Option Value)} (bs : List Bool) (h : lv_has la nL (gPr G 0 ls)) : lv_has la nL (gPr G 0 (gMask bs ls)) := by
  refine ⟨h.1, h.2.1, fun q hq => h.2.2 q ?_⟩
  obtain ⟨j, w, e, hw⟩ := gPr_inv hq
  subst e
  rw [Nat.zero_add]
  exact gPr_mem (gMask_get hw)
theorem r_iconst {Y : gY} {cc : ByteArray} {own : String} {pc : Nat} {ls : List (Option Value)} {st : List Value} {σ : gM} {n : Int} {v : Int32} (hd : decode cc pc = .ok (.iconst n, 1)) (hv : Int32.ofInt n = v) (k : AW Y cc own (pc + 1) ls (.int v :: st) σ) : AW Y cc own pc ls (st) σ := by
  obtain ⟨G, u, nL, p, l, e, R, s, m, args, below, meth, c, cells, slots, Q⟩ := Y
  intro hf H locs la hW hS hl
  exact lv_iconst hf.1 hf.2.1 hd hv (k hf H locs la hW hS hl)

theorem r_bipush {Y : gY} {cc : ByteArray} {own : String} {pc : Nat} {ls : List (Option Value)} {st : List Value} {σ : gM} {n : Int} {v : Int32} (hd : decode cc pc = .ok (.bipush n, 2)) (hv : (Int8.ofInt n).toInt32 = v) (k : AW Y cc own (pc + 2) ls (.int v :: st) σ) : AW Y cc own pc ls (st) σ := by
  obtain ⟨G, u, nL, p, l, e, R, s, m, args, below, meth, c, cells, slots, Q⟩ := Y
  intro hf H locs la hW hS hl
  exact lv_bipush hf.1 hf.2.1 hd hv (k hf H locs la hW hS hl)

theorem r_sipush {Y : gY} {cc : ByteArray} {own : String} {pc : Nat} {ls : List (Option Value)} {st : List Value} {σ : gM} {n : Int} {v : Int32} (hd : decode cc pc = .ok (.sipush n, 3)) (hv : (Int16.ofInt n).toInt32 = v) (k : AW Y cc own (pc + 3) ls (.int v :: st) σ) : AW Y cc own pc ls (st) σ := by
  obtain ⟨G, u, nL, p, l, e, R, s, m, args, below, meth, c, cells, slots, Q⟩ := Y
  intro hf H locs la hW hS hl
  exact lv_sipush hf.1 hf.2.1 hd hv (k hf H locs la hW hS hl)

theorem r_lconst {Y : gY} {cc : ByteArray} {own : String} {pc : Nat} {ls : List (Option Value)} {st : List Value} {σ : gM} {n : Fin 2} {v : Int64} (hd : decode cc pc = .ok (.lconst n, 1)) (hv : Int64.ofNat (n : Nat) = v) (k : AW Y cc own (pc + 1) ls (.long v :: st) σ) : AW Y cc own pc ls (st) σ := by
  obtain ⟨G, u, nL, p, l, e, R, s, m, args, below, meth, c, cells, slots, Q⟩ := Y
  intro hf H locs la hW hS hl
  exact lv_lconst hf.1 hf.2.1 hd hv (k hf H locs la hW hS hl)

theorem r_ldc {Y : gY} {cc : ByteArray} {own : String} {pc : Nat} {ls : List (Option Value)} {st : List Value} {σ : gM} {index : Nat} {v : Int32} (hd : decode cc pc = .ok (.ldc index, 2)) (hc : Jvm.Cond.constant own index v ∈ gG) (k : AW Y cc own (pc + 2) ls (.int v :: st) σ) : AW Y cc own pc ls (st) σ := by
  obtain ⟨G, u, nL, p, l, e, R, s, m, args, below, meth, c, cells, slots, Q⟩ := Y
  intro hf H locs la hW hS hl
  exact lv_ldc hf.1 hf.2.1 hf.2.2.2.1 (hf.2.2.2.2.1 _ hc) hd (k hf H locs la hW hS hl)

theorem r_ldc2 {Y : gY} {cc : ByteArray} {own : String} {pc : Nat} {ls : List (Option Value)} {st : List Value} {σ : gM} {index : Nat} {v : Int64} (hd : decode cc pc = .ok (.ldc2_w index, 3)) (hc : Jvm.Cond.constantLong own index v ∈ gG) (k : AW Y cc own (pc + 3) ls (.long v :: st) σ) : AW Y cc own pc ls (st) σ := by
  obtain ⟨G, u, nL, p, l, e, R, s, m, args, below, meth, c, cells, slots, Q⟩ := Y
  intro hf H locs la hW hS hl
  exact lv_ldc2 hf.1 hf.2.1 hf.2.2.2.1 (hf.2.2.2.2.1 _ hc) hd (k hf H locs la hW hS hl)

theorem r_iload_n {Y : gY} {cc : ByteArray} {own : String} {pc : Nat} {ls : List (Option Value)} {st : List Value} {σ : gM} {kk : Fin 4} {i : Nat} {x : Int32} (hd : decode cc pc = .ok (.iload_n kk, 1)) (hi : (kk : Nat) = i) (hx : ls[i]? = some (some (.int x))) (k : AW Y cc own (pc + 1) ls (.int x :: st) σ) : AW Y cc own pc ls (st) σ := by
  obtain ⟨G, u, nL, p, l, e, R, s, m, args, below, meth, c, cells, slots, Q⟩ := Y
  intro hf H locs la hW hS hl
  exact lv_iload_n hf.1 hf.2.1 hd hi (gPr_at hl hx) (k hf H locs la hW hS hl)

theorem r_iload {Y : gY} {cc : ByteArray} {own : String} {pc : Nat} {ls : List (Option Value)} {st : List Value} {σ : gM} {i : Nat} {x : Int32} (hd : decode cc pc = .ok (.iload i, 2)) (hx : ls[i]? = some (some (.int x))) (k : AW Y cc own (pc + 2) ls (.int x :: st) σ) : AW Y cc own pc ls (st) σ := by
  obtain ⟨G, u, nL, p, l, e, R, s, m, args, below, meth, c, cells, slots, Q⟩ := Y
  intro hf H locs la hW hS hl
  exact lv_iload hf.1 hf.2.1 hd (gPr_at hl hx) (k hf H locs la hW hS hl)

theorem r_lload_n {Y : gY} {cc : ByteArray} {own : String} {pc : Nat} {ls : List (Option Value)} {st : List Value} {σ : gM} {kk : Fin 4} {i : Nat} {x : Int64} (hd : decode cc pc = .ok (.lload_n kk, 1)) (hi : (kk : Nat) = i) (hx : ls[i]? = some (some (.long x))) (k : AW Y cc own (pc + 1) ls (.long x :: st) σ) : AW Y cc own pc ls (st) σ := by
  obtain ⟨G, u, nL, p, l, e, R, s, m, args, below, meth, c, cells, slots, Q⟩ := Y
  intro hf H locs la hW hS hl
  exact lv_lload_n hf.1 hf.2.1 hd hi (gPr_at hl hx) (k hf H locs la hW hS hl)

theorem r_lload {Y : gY} {cc : ByteArray} {own : String} {pc : Nat} {ls : List (Option Value)} {st : List Value} {σ : gM} {i : Nat} {x : Int64} (hd : decode cc pc = .ok (.lload i, 2)) (hx : ls[i]? = some (some (.long x))) (k : AW Y cc own (pc + 2) ls (.long x :: st) σ) : AW Y cc own pc ls (st) σ := by
  obtain ⟨G, u, nL, p, l, e, R, s, m, args, below, meth, c, cells, slots, Q⟩ := Y
  intro hf H locs la hW hS hl
  exact lv_lload hf.1 hf.2.1 hd (gPr_at hl hx) (k hf H locs la hW hS hl)

theorem r_aload_n {Y : gY} {cc : ByteArray} {own : String} {pc : Nat} {ls : List (Option Value)} {st : List Value} {σ : gM} {kk : Fin 4} {i : Nat} {x : Nat} (hd : decode cc pc = .ok (.aload_n kk, 1)) (hi : (kk : Nat) = i) (hx : ls[i]? = some (some (.ref x))) (k : AW Y cc own (pc + 1) ls (.ref x :: st) σ) : AW Y cc own pc ls (st) σ := by
  obtain ⟨G, u, nL, p, l, e, R, s, m, args, below, meth, c, cells, slots, Q⟩ := Y
  intro hf H locs la hW hS hl
  exact lv_aload_n hf.1 hf.2.1 hd hi (gPr_at hl hx) (k hf H locs la hW hS hl)

theorem r_aload {Y : gY} {cc : ByteArray} {own : String} {pc : Nat} {ls : List (Option Value)} {st : List Value} {σ : gM} {i : Nat} {x : Nat} (hd : decode cc pc = .ok (.aload i, 2)) (hx : ls[i]? = some (some (.ref x))) (k : AW Y cc own (pc + 2) ls (.ref x :: st) σ) : AW Y cc own pc ls (st) σ := by
  obtain ⟨G, u, nL, p, l, e, R, s, m, args, below, meth, c, cells, slots, Q⟩ := Y
  intro hf H locs la hW hS hl
  exact lv_aload hf.1 hf.2.1 hd (gPr_at hl hx) (k hf H locs la hW hS hl)

theorem r_istore_n {Y : gY} {cc : ByteArray} {own : String} {pc : Nat} {ls : List (Option Value)} {st : List Value} {σ : gM} {kk : Fin 4} {i : Nat} {x : Int32} {ls' : List (Option Value)} (hd : decode cc pc = .ok (.istore_n kk, 1)) (hi : (kk : Nat) = i) (hn : i < gNL Y) (hs : gSet i (some (.int x)) ls = ls') (k : AW Y cc own (pc + 1) ls' (st) σ) : AW Y cc own pc ls (.int x :: st) σ := by
  obtain ⟨G, u, nL, p, l, e, R, s, m, args, below, meth, c, cells, slots, Q⟩ := Y
  intro hf H locs la hW hS hl
  subst hs
  exact lv_istore_n hf.1 hf.2.1 hd hi hl hn rfl (fun la' hl' => k hf H locs la' hW hS (gS1_has (G := G) (by rfl) hl'))

theorem r_istore_nL {Y : gY} {cc : ByteArray} {own : String} {pc : Nat} {ls : List (Option Value)} {st : List Value} {σ : gM} {kk : Fin 4} {i : Nat} {x : Int32} (hd : decode cc pc = .ok (.istore_n kk, 1)) (hi : (kk : Nat) = i) (hn : i < gNL Y) {β : Type} {o : β} {E : Int32 → Option β} (h : gLt x E = some o) (k : ∀ y : Int32, E y = some o → AW Y cc own (pc + 1) (gSet i (some (.int y)) ls) st σ) : AW Y cc own pc ls (.int x :: st) σ := by
  obtain ⟨G, u, nL, p, l, e, R, s, m, args, below, meth, c, cells, slots, Q⟩ := Y
  intro hf H locs la hW hS hl
  exact lv_istore_n hf.1 hf.2.1 hd hi hl hn rfl (fun la' hl' => k x h hf H locs la' hW hS (gS1_has (G := G) (by rfl) hl'))

theorem r_istore {Y : gY} {cc : ByteArray} {own : String} {pc : Nat} {ls : List (Option Value)} {st : List Value} {σ : gM} {i : Nat} {x : Int32} {ls' : List (Option Value)} (hd : decode cc pc = .ok (.istore i, 2)) (hn : i < gNL Y) (hs : gSet i (some (.int x)) ls = ls') (k : AW Y cc own (pc + 2) ls' (st) σ) : AW Y cc own pc ls (.int x :: st) σ := by
  obtain ⟨G, u, nL, p, l, e, R, s, m, args, below, meth, c, cells, slots, Q⟩ := Y
  intro hf H locs la hW hS hl
  subst hs
  exact lv_istore hf.1 hf.2.1 hd hl hn rfl (fun la' hl' => k hf H locs la' hW hS (gS1_has (G := G) (by rfl) hl'))

theorem r_istoreL {Y : gY} {cc : ByteArray} {own : String} {pc : Nat} {ls : List (Option Value)} {st : List Value} {σ : gM} {i : Nat} {x : Int32} (hd : decode cc pc = .ok (.istore i, 2)) (hn : i < gNL Y) {β : Type} {o : β} {E : Int32 → Option β} (h : gLt x E = some o) (k : ∀ y : Int32, E y = some o → AW Y cc own (pc + 2) (gSet i (some (.int y)) ls) st σ) : AW Y cc own pc ls (.int x :: st) σ := by
  obtain ⟨G, u, nL, p, l, e, R, s, m, args, below, meth, c, cells, slots, Q⟩ := Y
  intro hf H locs la hW hS hl
  exact lv_istore hf.1 hf.2.1 hd hl hn rfl (fun la' hl' => k x h hf H locs la' hW hS (gS1_has (G := G) (by rfl) hl'))

theorem r_astore_n {Y : gY} {cc : ByteArray} {own : String} {pc : Nat} {ls : List (Option Value)} {st : List Value} {σ : gM} {kk : Fin 4} {i : Nat} {x : Nat} {ls' : List (Option Value)} (hd : decode cc pc = .ok (.astore_n kk, 1)) (hi : (kk : Nat) = i) (hn : i < gNL Y) (hs : gSet i (some (.ref x)) ls = ls') (k : AW Y cc own (pc + 1) ls' (st) σ) : AW Y cc own pc ls (.ref x :: st) σ := by
  obtain ⟨G, u, nL, p, l, e, R, s, m, args, below, meth, c, cells, slots, Q⟩ := Y
  intro hf H locs la hW hS hl
  subst hs
  exact lv_astore_n hf.1 hf.2.1 hd hi hl hn rfl (fun la' hl' => k hf H locs la' hW hS (gS1_has (G := G) (by rfl) hl'))

theorem r_astore {Y : gY} {cc : ByteArray} {own : String} {pc : Nat} {ls : List (Option Value)} {st : List Value} {σ : gM} {i : Nat} {x : Nat} {ls' : List (Option Value)} (hd : decode cc pc = .ok (.astore i, 2)) (hn : i < gNL Y) (hs : gSet i (some (.ref x)) ls = ls') (k : AW Y cc own (pc + 2) ls' (st) σ) : AW Y cc own pc ls (.ref x :: st) σ := by
  obtain ⟨G, u, nL, p, l, e, R, s, m, args, below, meth, c, cells, slots, Q⟩ := Y
  intro hf H locs la hW hS hl
  subst hs
  exact lv_astore hf.1 hf.2.1 hd hl hn rfl (fun la' hl' => k hf H locs la' hW hS (gS1_has (G := G) (by rfl) hl'))

theorem r_lstore_n {Y : gY} {cc : ByteArray} {own : String} {pc : Nat} {ls : List (Option Value)} {st : List Value} {σ : gM} {kk : Fin 4} {i : Nat} {x : Int64} {ls' : List (Option Value)} (hd : decode cc pc = .ok (.lstore_n kk, 1)) (hi : (kk : Nat) = i) (hn : i + 1 < gNL Y) (hs : gSet2 i (some (.long x)) ls = ls') (k : AW Y cc own (pc + 1) ls' (st) σ) : AW Y cc own pc ls (.long x :: st) σ := by
  obtain ⟨G, u, nL, p, l, e, R, s, m, args, below, meth, c, cells, slots, Q⟩ := Y
  intro hf H locs la hW hS hl
  subst hs
  exact lv_lstore_n hf.1 hf.2.1 hd hi hl hn rfl (fun la' hl' => k hf H locs la' hW hS (gS2_has (G := G) (by rfl) hl'))

theorem r_lstore {Y : gY} {cc : ByteArray} {own : String} {pc : Nat} {ls : List (Option Value)} {st : List Value} {σ : gM} {i : Nat} {x : Int64} {ls' : List (Option Value)} (hd : decode cc pc = .ok (.lstore i, 2)) (hn : i + 1 < gNL Y) (hs : gSet2 i (some (.long x)) ls = ls') (k : AW Y cc own (pc + 2) ls' (st) σ) : AW Y cc own pc ls (.long x :: st) σ := by
  obtain ⟨G, u, nL, p, l, e, R, s, m, args, below, meth, c, cells, slots, Q⟩ := Y
  intro hf H locs la hW hS hl
  subst hs
  exact lv_lstore hf.1 hf.2.1 hd hl hn rfl (fun la' hl' => k hf H locs la' hW hS (gS2_has (G := G) (by rfl) hl'))

theorem r_iinc {Y : gY} {cc : ByteArray} {own : String} {pc : Nat} {ls : List (Option Value)} {st : List Value} {σ : gM} {i : Nat} {n : Int} {x d : Int32} (hd : decode cc pc = .ok (.iinc i n, 3)) (hx : ls[i]? = some (some (.int x))) (hv : Int32.ofInt n = d) (hn : i < gNL Y) {β : Type} {o : β} {E : Int32 → Option β} (h : gLt (x + d) E = some o) (k : ∀ y : Int32, E y = some o → AW Y cc own (pc + 3) (gSet i (some (.int y)) ls) st σ) : AW Y cc own pc ls (st) σ := by
  obtain ⟨G, u, nL, p, l, e, R, s, m, args, below, meth, c, cells, slots, Q⟩ := Y
  intro hf H locs la hW hS hl
  obtain ⟨k0, hk0⟩ := List.getElem?_of_mem (gPr_mem (G := G) hx)
  exact lv_iinc (v := x + d) hf.1 hf.2.1 hd hl hk0 (by rw [hv]) hn rfl (fun la' hl' => k _ h hf H locs la' hW hS (gS1_has (G := G) (by rfl) hl'))

theorem r_iadd {Y : gY} {cc : ByteArray} {own : String} {pc : Nat} {ls : List (Option Value)} {st : List Value} {σ : gM} {x y : Int32} (hd : decode cc pc = .ok (.iadd, 1)) (k : AW Y cc own (pc + 1) ls (.int (x + y) :: st) σ) : AW Y cc own pc ls (.int y :: .int x :: st) σ := by
  obtain ⟨G, u, nL, p, l, e, R, s, m, args, below, meth, c, cells, slots, Q⟩ := Y
  intro hf H locs la hW hS hl
  exact lv_iadd hf.1 hf.2.1 hd (k hf H locs la hW hS hl)

theorem r_isub {Y : gY} {cc : ByteArray} {own : String} {pc : Nat} {ls : List (Option Value)} {st : List Value} {σ : gM} {x y : Int32} (hd : decode cc pc = .ok (.isub, 1)) (k : AW Y cc own (pc + 1) ls (.int (x - y) :: st) σ) : AW Y cc own pc ls (.int y :: .int x :: st) σ := by
  obtain ⟨G, u, nL, p, l, e, R, s, m, args, below, meth, c, cells, slots, Q⟩ := Y
  intro hf H locs la hW hS hl
  exact lv_isub hf.1 hf.2.1 hd (k hf H locs la hW hS hl)

theorem r_imul {Y : gY} {cc : ByteArray} {own : String} {pc : Nat} {ls : List (Option Value)} {st : List Value} {σ : gM} {x y : Int32} (hd : decode cc pc = .ok (.imul, 1)) (k : AW Y cc own (pc + 1) ls (.int (x * y) :: st) σ) : AW Y cc own pc ls (.int y :: .int x :: st) σ := by
  obtain ⟨G, u, nL, p, l, e, R, s, m, args, below, meth, c, cells, slots, Q⟩ := Y
  intro hf H locs la hW hS hl
  exact lv_imul hf.1 hf.2.1 hd (k hf H locs la hW hS hl)

theorem r_iand {Y : gY} {cc : ByteArray} {own : String} {pc : Nat} {ls : List (Option Value)} {st : List Value} {σ : gM} {x y : Int32} (hd : decode cc pc = .ok (.iand, 1)) (k : AW Y cc own (pc + 1) ls (.int (x &&& y) :: st) σ) : AW Y cc own pc ls (.int y :: .int x :: st) σ := by
  obtain ⟨G, u, nL, p, l, e, R, s, m, args, below, meth, c, cells, slots, Q⟩ := Y
  intro hf H locs la hW hS hl
  exact lv_iand hf.1 hf.2.1 hd (k hf H locs la hW hS hl)

theorem r_ior {Y : gY} {cc : ByteArray} {own : String} {pc : Nat} {ls : List (Option Value)} {st : List Value} {σ : gM} {x y : Int32} (hd : decode cc pc = .ok (.ior, 1)) (k : AW Y cc own (pc + 1) ls (.int (x ||| y) :: st) σ) : AW Y cc own pc ls (.int y :: .int x :: st) σ := by
  obtain ⟨G, u, nL, p, l, e, R, s, m, args, below, meth, c, cells, slots, Q⟩ := Y
  intro hf H locs la hW hS hl
  exact lv_ior hf.1 hf.2.1 hd (k hf H locs la hW hS hl)

theorem r_ladd {Y : gY} {cc : ByteArray} {own : String} {pc : Nat} {ls : List (Option Value)} {st : List Value} {σ : gM} {x y : Int64} (hd : decode cc pc = .ok (.ladd, 1)) (k : AW Y cc own (pc + 1) ls (.long (x + y) :: st) σ) : AW Y cc own pc ls (.long y :: .long x :: st) σ := by
  obtain ⟨G, u, nL, p, l, e, R, s, m, args, below, meth, c, cells, slots, Q⟩ := Y
  intro hf H locs la hW hS hl
  exact lv_ladd hf.1 hf.2.1 hd (k hf H locs la hW hS hl)

theorem r_lsub {Y : gY} {cc : ByteArray} {own : String} {pc : Nat} {ls : List (Option Value)} {st : List Value} {σ : gM} {x y : Int64} (hd : decode cc pc = .ok (.lsub, 1)) (k : AW Y cc own (pc + 1) ls (.long (x - y) :: st) σ) : AW Y cc own pc ls (.long y :: .long x :: st) σ := by
  obtain ⟨G, u, nL, p, l, e, R, s, m, args, below, meth, c, cells, slots, Q⟩ := Y
  intro hf H locs la hW hS hl
  exact lv_lsub hf.1 hf.2.1 hd (k hf H locs la hW hS hl)

theorem r_lmul {Y : gY} {cc : ByteArray} {own : String} {pc : Nat} {ls : List (Option Value)} {st : List Value} {σ : gM} {x y : Int64} (hd : decode cc pc = .ok (.lmul, 1)) (k : AW Y cc own (pc + 1) ls (.long (x * y) :: st) σ) : AW Y cc own pc ls (.long y :: .long x :: st) σ := by
  obtain ⟨G, u, nL, p, l, e, R, s, m, args, below, meth, c, cells, slots, Q⟩ := Y
  intro hf H locs la hW hS hl
  exact lv_lmul hf.1 hf.2.1 hd (k hf H locs la hW hS hl)

theorem r_land {Y : gY} {cc : ByteArray} {own : String} {pc : Nat} {ls : List (Option Value)} {st : List Value} {σ : gM} {x y : Int64} (hd : decode cc pc = .ok (.land, 1)) (k : AW Y cc own (pc + 1) ls (.long (x &&& y) :: st) σ) : AW Y cc own pc ls (.long y :: .long x :: st) σ := by
  obtain ⟨G, u, nL, p, l, e, R, s, m, args, below, meth, c, cells, slots, Q⟩ := Y
  intro hf H locs la hW hS hl
  exact lv_land hf.1 hf.2.1 hd (k hf H locs la hW hS hl)

theorem r_lor {Y : gY} {cc : ByteArray} {own : String} {pc : Nat} {ls : List (Option Value)} {st : List Value} {σ : gM} {x y : Int64} (hd : decode cc pc = .ok (.lor, 1)) (k : AW Y cc own (pc + 1) ls (.long (x ||| y) :: st) σ) : AW Y cc own pc ls (.long y :: .long x :: st) σ := by
  obtain ⟨G, u, nL, p, l, e, R, s, m, args, below, meth, c, cells, slots, Q⟩ := Y
  intro hf H locs la hW hS hl
  exact lv_lor hf.1 hf.2.1 hd (k hf H locs la hW hS hl)

theorem r_idiv {Y : gY} {cc : ByteArray} {own : String} {pc : Nat} {ls : List (Option Value)} {st : List Value} {σ : gM} {x y : Int32} (hd : decode cc pc = .ok (.idiv, 1)) {β : Type} {o : β} {E : Option β} (h : gDz y E = some o) (k : E = some o → AW Y cc own (pc + 1) ls (.int (x / y) :: st) σ) : AW Y cc own pc ls (.int y :: .int x :: st) σ := by
  obtain ⟨G, u, nL, p, l, e, R, s, m, args, below, meth, c, cells, slots, Q⟩ := Y
  intro hf H locs la hW hS hl
  unfold gDz at h
  split at h
  · cases h
  · rename_i hy
    exact lv_idiv hf.1 hf.2.1 hd hy (k h hf H locs la hW hS hl)

theorem r_idivc {Y : gY} {cc : ByteArray} {own : String} {pc : Nat} {ls : List (Option Value)} {st : List Value} {σ : gM} {x y : Int32} (hd : decode cc pc = .ok (.idiv, 1)) (hy : ¬ y = 0) (k : AW Y cc own (pc + 1) ls (.int (x / y) :: st) σ) : AW Y cc own pc ls (.int y :: .int x :: st) σ := by
  obtain ⟨G, u, nL, p, l, e, R, s, m, args, below, meth, c, cells, slots, Q⟩ := Y
  intro hf H locs la hW hS hl
  exact lv_idiv hf.1 hf.2.1 hd hy (k hf H locs la hW hS hl)

theorem r_irem {Y : gY} {cc : ByteArray} {own : String} {pc : Nat} {ls : List (Option Value)} {st : List Value} {σ : gM} {x y : Int32} (hd : decode cc pc = .ok (.irem, 1)) {β : Type} {o : β} {E : Option β} (h : gDz y E = some o) (k : E = some o → AW Y cc own (pc + 1) ls (.int (x - x / y * y) :: st) σ) : AW Y cc own pc ls (.int y :: .int x :: st) σ := by
  obtain ⟨G, u, nL, p, l, e, R, s, m, args, below, meth, c, cells, slots, Q⟩ := Y
  intro hf H locs la hW hS hl
  unfold gDz at h
  split at h
  · cases h
  · rename_i hy
    exact lv_irem hf.1 hf.2.1 hd hy (k h hf H locs la hW hS hl)

theorem r_iremc {Y : gY} {cc : ByteArray} {own : String} {pc : Nat} {ls : List (Option Value)} {st : List Value} {σ : gM} {x y : Int32} (hd : decode cc pc = .ok (.irem, 1)) (hy : ¬ y = 0) (k : AW Y cc own (pc + 1) ls (.int (x - x / y * y) :: st) σ) : AW Y cc own pc ls (.int y :: .int x :: st) σ := by
  obtain ⟨G, u, nL, p, l, e, R, s, m, args, below, meth, c, cells, slots, Q⟩ := Y
  intro hf H locs la hW hS hl
  exact lv_irem hf.1 hf.2.1 hd hy (k hf H locs la hW hS hl)

theorem r_ldiv {Y : gY} {cc : ByteArray} {own : String} {pc : Nat} {ls : List (Option Value)} {st : List Value} {σ : gM} {x y : Int64} (hd : decode cc pc = .ok (.ldiv, 1)) {β : Type} {o : β} {E : Option β} (h : gDl y E = some o) (k : E = some o → AW Y cc own (pc + 1) ls (.long (x / y) :: st) σ) : AW Y cc own pc ls (.long y :: .long x :: st) σ := by
  obtain ⟨G, u, nL, p, l, e, R, s, m, args, below, meth, c, cells, slots, Q⟩ := Y
  intro hf H locs la hW hS hl
  unfold gDl at h
  split at h
  · cases h
  · rename_i hy
    exact lv_ldiv hf.1 hf.2.1 hd hy (k h hf H locs la hW hS hl)

theorem r_ldivc {Y : gY} {cc : ByteArray} {own : String} {pc : Nat} {ls : List (Option Value)} {st : List Value} {σ : gM} {x y : Int64} (hd : decode cc pc = .ok (.ldiv, 1)) (hy : ¬ y = 0) (k : AW Y cc own (pc + 1) ls (.long (x / y) :: st) σ) : AW Y cc own pc ls (.long y :: .long x :: st) σ := by
  obtain ⟨G, u, nL, p, l, e, R, s, m, args, below, meth, c, cells, slots, Q⟩ := Y
  intro hf H locs la hW hS hl
  exact lv_ldiv hf.1 hf.2.1 hd hy (k hf H locs la hW hS hl)

theorem r_lrem {Y : gY} {cc : ByteArray} {own : String} {pc : Nat} {ls : List (Option Value)} {st : List Value} {σ : gM} {x y : Int64} (hd : decode cc pc = .ok (.lrem, 1)) {β : Type} {o : β} {E : Option β} (h : gDl y E = some o) (k : E = some o → AW Y cc own (pc + 1) ls (.long (x - x / y * y) :: st) σ) : AW Y cc own pc ls (.long y :: .long x :: st) σ := by
  obtain ⟨G, u, nL, p, l, e, R, s, m, args, below, meth, c, cells, slots, Q⟩ := Y
  intro hf H locs la hW hS hl
  unfold gDl at h
  split at h
  · cases h
  · rename_i hy
    exact lv_lrem hf.1 hf.2.1 hd hy (k h hf H locs la hW hS hl)

theorem r_lremc {Y : gY} {cc : ByteArray} {own : String} {pc : Nat} {ls : List (Option Value)} {st : List Value} {σ : gM} {x y : Int64} (hd : decode cc pc = .ok (.lrem, 1)) (hy : ¬ y = 0) (k : AW Y cc own (pc + 1) ls (.long (x - x / y * y) :: st) σ) : AW Y cc own pc ls (.long y :: .long x :: st) σ := by
  obtain ⟨G, u, nL, p, l, e, R, s, m, args, below, meth, c, cells, slots, Q⟩ := Y
  intro hf H locs la hW hS hl
  exact lv_lrem hf.1 hf.2.1 hd hy (k hf H locs la hW hS hl)

theorem r_ineg {Y : gY} {cc : ByteArray} {own : String} {pc : Nat} {ls : List (Option Value)} {st : List Value} {σ : gM} {x : Int32} (hd : decode cc pc = .ok (.ineg, 1)) (k : AW Y cc own (pc + 1) ls (.int (-x) :: st) σ) : AW Y cc own pc ls (.int x :: st) σ := by
  obtain ⟨G, u, nL, p, l, e, R, s, m, args, below, meth, c, cells, slots, Q⟩ := Y
  intro hf H locs la hW hS hl
  exact lv_ineg hf.1 hf.2.1 hd (k hf H locs la hW hS hl)

theorem r_ishl {Y : gY} {cc : ByteArray} {own : String} {pc : Nat} {ls : List (Option Value)} {st : List Value} {σ : gM} {x y v : Int32} (hd : decode cc pc = .ok (.ishl, 1)) (hv : x <<< (y &&& 31) = v) (k : AW Y cc own (pc + 1) ls (.int v :: st) σ) : AW Y cc own pc ls (.int y :: .int x :: st) σ := by
  obtain ⟨G, u, nL, p, l, e, R, s, m, args, below, meth, c, cells, slots, Q⟩ := Y
  intro hf H locs la hW hS hl
  subst hv
  exact lv_ishl hf.1 hf.2.1 hd (k hf H locs la hW hS hl)

theorem r_i2l {Y : gY} {cc : ByteArray} {own : String} {pc : Nat} {ls : List (Option Value)} {st : List Value} {σ : gM} {x : Int32} (hd : decode cc pc = .ok (.i2l, 1)) (k : AW Y cc own (pc + 1) ls (.long x.toInt64 :: st) σ) : AW Y cc own pc ls (.int x :: st) σ := by
  obtain ⟨G, u, nL, p, l, e, R, s, m, args, below, meth, c, cells, slots, Q⟩ := Y
  intro hf H locs la hW hS hl
  exact lv_i2l hf.1 hf.2.1 hd rfl (k hf H locs la hW hS hl)

theorem r_l2i {Y : gY} {cc : ByteArray} {own : String} {pc : Nat} {ls : List (Option Value)} {st : List Value} {σ : gM} {x : Int64} (hd : decode cc pc = .ok (.l2i, 1)) (k : AW Y cc own (pc + 1) ls (.int x.toInt32 :: st) σ) : AW Y cc own pc ls (.long x :: st) σ := by
  obtain ⟨G, u, nL, p, l, e, R, s, m, args, below, meth, c, cells, slots, Q⟩ := Y
  intro hf H locs la hW hS hl
  exact lv_l2i hf.1 hf.2.1 hd rfl (k hf H locs la hW hS hl)

theorem r_i2c {Y : gY} {cc : ByteArray} {own : String} {pc : Nat} {ls : List (Option Value)} {st : List Value} {σ : gM} {x : Int32} (hd : decode cc pc = .ok (.i2c, 1)) (k : AW Y cc own (pc + 1) ls (.int (x.toUInt32 % 65536).toInt32 :: st) σ) : AW Y cc own pc ls (.int x :: st) σ := by
  obtain ⟨G, u, nL, p, l, e, R, s, m, args, below, meth, c, cells, slots, Q⟩ := Y
  intro hf H locs la hW hS hl
  exact lv_i2c hf.1 hf.2.1 hd rfl (k hf H locs la hW hS hl)

theorem r_lshl {Y : gY} {cc : ByteArray} {own : String} {pc : Nat} {ls : List (Option Value)} {st : List Value} {σ : gM} {x : Int64} {y : Int32} (hd : decode cc pc = .ok (.lshl, 1)) (k : AW Y cc own (pc + 1) ls (.long (x <<< (y.toInt64 &&& 63)) :: st) σ) : AW Y cc own pc ls (.int y :: .long x :: st) σ := by
  obtain ⟨G, u, nL, p, l, e, R, s, m, args, below, meth, c, cells, slots, Q⟩ := Y
  intro hf H locs la hW hS hl
  exact lv_lshl hf.1 hf.2.1 hd rfl (k hf H locs la hW hS hl)

theorem r_lushr {Y : gY} {cc : ByteArray} {own : String} {pc : Nat} {ls : List (Option Value)} {st : List Value} {σ : gM} {x : Int64} {y : Int32} (hd : decode cc pc = .ok (.lushr, 1)) (k : AW Y cc own (pc + 1) ls (.long (x.toUInt64 >>> (y.toInt64.toUInt64 &&& Int64.toUInt64 63)).toInt64 :: st) σ) : AW Y cc own pc ls (.int y :: .long x :: st) σ := by
  obtain ⟨G, u, nL, p, l, e, R, s, m, args, below, meth, c, cells, slots, Q⟩ := Y
  intro hf H locs la hW hS hl
  exact lv_lushr hf.1 hf.2.1 hd rfl (k hf H locs la hW hS hl)

theorem r_lcmp {Y : gY} {cc : ByteArray} {own : String} {pc : Nat} {ls : List (Option Value)} {st : List Value} {σ : gM} {x y : Int64} (hd : decode cc pc = .ok (.lcmp, 1)) (k : AW Y cc own (pc + 1) ls (.int (lg_cmp x y) :: st) σ) : AW Y cc own pc ls (.long y :: .long x :: st) σ := by
  obtain ⟨G, u, nL, p, l, e, R, s, m, args, below, meth, c, cells, slots, Q⟩ := Y
  intro hf H locs la hW hS hl
  exact W.lcmp hf.1 hf.2.1 hd (k hf H locs la hW hS hl)

theorem r_dup {Y : gY} {cc : ByteArray} {own : String} {pc : Nat} {ls : List (Option Value)} {st : List Value} {σ : gM} {v : Value} (hd : decode cc pc = .ok (.dup, 1)) (hv : v.category = 1) (k : AW Y cc own (pc + 1) ls (v :: v :: st) σ) : AW Y cc own pc ls (v :: st) σ := by
  obtain ⟨G, u, nL, p, l, e, R, s, m, args, below, meth, c, cells, slots, Q⟩ := Y
  intro hf H locs la hW hS hl
  exact lv_dup hf.1 hf.2.1 hd ((gV_cat G v).trans hv) (k hf H locs la hW hS hl)

theorem r_pop {Y : gY} {cc : ByteArray} {own : String} {pc : Nat} {ls : List (Option Value)} {st : List Value} {σ : gM} {v : Value} (hd : decode cc pc = .ok (.pop, 1)) (hv : v.category = 1) (k : AW Y cc own (pc + 1) ls (st) σ) : AW Y cc own pc ls (v :: st) σ := by
  obtain ⟨G, u, nL, p, l, e, R, s, m, args, below, meth, c, cells, slots, Q⟩ := Y
  intro hf H locs la hW hS hl
  exact lv_pop hf.1 hf.2.1 hd ((gV_cat G v).trans hv) (k hf H locs la hW hS hl)

theorem r_dup2 {Y : gY} {cc : ByteArray} {own : String} {pc : Nat} {ls : List (Option Value)} {st : List Value} {σ : gM} {v w : Value} (hd : decode cc pc = .ok (.dup2, 1)) (hv : v.category = 1) (hw : w.category = 1) (k : AW Y cc own (pc + 1) ls (v :: w :: v :: w :: st) σ) : AW Y cc own pc ls (v :: w :: st) σ := by
  obtain ⟨G, u, nL, p, l, e, R, s, m, args, below, meth, c, cells, slots, Q⟩ := Y
  intro hf H locs la hW hS hl
  exact lv_dup2_11 hf.1 hf.2.1 hd ((gV_cat G v).trans hv) ((gV_cat G w).trans hw) (k hf H locs la hW hS hl)

theorem r_goto {Y : gY} {cc : ByteArray} {own : String} {pc : Nat} {ls : List (Option Value)} {st : List Value} {σ : gM} {off : Int} {tgt : Nat} (hd : decode cc pc = .ok (.goto off, 3)) (ht : (pc : Int) + off = (tgt : Int)) (k : AW Y cc own tgt ls st σ) : AW Y cc own pc ls (st) σ := by
  obtain ⟨G, u, nL, p, l, e, R, s, m, args, below, meth, c, cells, slots, Q⟩ := Y
  intro hf H locs la hW hS hl
  exact lv_goto hf.1 hf.2.1 hd ht (k hf H locs la hW hS hl)

theorem r_icmp_eq {Y : gY} {cc : ByteArray} {own : String} {pc : Nat} {ls : List (Option Value)} {st : List Value} {σ : gM} {x y : Int32} {off : Int} {tgt : Nat} {β : Type} {o : β} {E1 E2 : Option β} (hd : decode cc pc = .ok (.if_icmp .eq off, 3)) (ht : (pc : Int) + off = (tgt : Int)) (h : (if x = y then E1 else E2) = some o) (kt : E1 = some o → AW Y cc own tgt ls st σ) (kf : E2 = some o → AW Y cc own (pc + 3) ls st σ) : AW Y cc own pc ls (.int y :: .int x :: st) σ := by
  obtain ⟨G, u, nL, p, l, e, R, s, m, args, below, meth, c, cells, slots, Q⟩ := Y
  intro hf H locs la hW hS hl
  refine lv_icmp_eq hf.1 hf.2.1 hd ht (fun hc => ?_) (fun hc => ?_)
  · rw [if_pos hc] at h
    exact kt h hf H locs la hW hS hl
  · rw [if_neg hc] at h
    exact kf h hf H locs la hW hS hl

theorem r_icmp_lt {Y : gY} {cc : ByteArray} {own : String} {pc : Nat} {ls : List (Option Value)} {st : List Value} {σ : gM} {x y : Int32} {off : Int} {tgt : Nat} {β : Type} {o : β} {E1 E2 : Option β} (hd : decode cc pc = .ok (.if_icmp .lt off, 3)) (ht : (pc : Int) + off = (tgt : Int)) (h : (if x < y then E1 else E2) = some o) (kt : E1 = some o → AW Y cc own tgt ls st σ) (kf : E2 = some o → AW Y cc own (pc + 3) ls st σ) : AW Y cc own pc ls (.int y :: .int x :: st) σ := by
  obtain ⟨G, u, nL, p, l, e, R, s, m, args, below, meth, c, cells, slots, Q⟩ := Y
  intro hf H locs la hW hS hl
  refine lv_icmp_lt hf.1 hf.2.1 hd ht (fun hc => ?_) (fun hc => ?_)
  · rw [if_pos hc] at h
    exact kt h hf H locs la hW hS hl
  · rw [if_neg hc] at h
    exact kf h hf H locs la hW hS hl

theorem r_icmp_ge {Y : gY} {cc : ByteArray} {own : String} {pc : Nat} {ls : List (Option Value)} {st : List Value} {σ : gM} {x y : Int32} {off : Int} {tgt : Nat} {β : Type} {o : β} {E1 E2 : Option β} (hd : decode cc pc = .ok (.if_icmp .ge off, 3)) (ht : (pc : Int) + off = (tgt : Int)) (h : (if y ≤ x then E1 else E2) = some o) (kt : E1 = some o → AW Y cc own tgt ls st σ) (kf : E2 = some o → AW Y cc own (pc + 3) ls st σ) : AW Y cc own pc ls (.int y :: .int x :: st) σ := by
  obtain ⟨G, u, nL, p, l, e, R, s, m, args, below, meth, c, cells, slots, Q⟩ := Y
  intro hf H locs la hW hS hl
  refine lv_icmp_ge hf.1 hf.2.1 hd ht (fun hc => ?_) (fun hc => ?_)
  · rw [if_pos hc] at h
    exact kt h hf H locs la hW hS hl
  · rw [if_neg hc] at h
    exact kf h hf H locs la hW hS hl

theorem r_icmp_gt {Y : gY} {cc : ByteArray} {own : String} {pc : Nat} {ls : List (Option Value)} {st : List Value} {σ : gM} {x y : Int32} {off : Int} {tgt : Nat} {β : Type} {o : β} {E1 E2 : Option β} (hd : decode cc pc = .ok (.if_icmp .gt off, 3)) (ht : (pc : Int) + off = (tgt : Int)) (h : (if y < x then E1 else E2) = some o) (kt : E1 = some o → AW Y cc own tgt ls st σ) (kf : E2 = some o → AW Y cc own (pc + 3) ls st σ) : AW Y cc own pc ls (.int y :: .int x :: st) σ := by
  obtain ⟨G, u, nL, p, l, e, R, s, m, args, below, meth, c, cells, slots, Q⟩ := Y
  intro hf H locs la hW hS hl
  refine lv_icmp_gt hf.1 hf.2.1 hd ht (fun hc => ?_) (fun hc => ?_)
  · rw [if_pos hc] at h
    exact kt h hf H locs la hW hS hl
  · rw [if_neg hc] at h
    exact kf h hf H locs la hW hS hl

theorem r_icmp_le {Y : gY} {cc : ByteArray} {own : String} {pc : Nat} {ls : List (Option Value)} {st : List Value} {σ : gM} {x y : Int32} {off : Int} {tgt : Nat} {β : Type} {o : β} {E1 E2 : Option β} (hd : decode cc pc = .ok (.if_icmp .le off, 3)) (ht : (pc : Int) + off = (tgt : Int)) (h : (if x ≤ y then E1 else E2) = some o) (kt : E1 = some o → AW Y cc own tgt ls st σ) (kf : E2 = some o → AW Y cc own (pc + 3) ls st σ) : AW Y cc own pc ls (.int y :: .int x :: st) σ := by
  obtain ⟨G, u, nL, p, l, e, R, s, m, args, below, meth, c, cells, slots, Q⟩ := Y
  intro hf H locs la hW hS hl
  refine lv_icmp_le hf.1 hf.2.1 hd ht (fun hc => ?_) (fun hc => ?_)
  · rw [if_pos hc] at h
    exact kt h hf H locs la hW hS hl
  · rw [if_neg hc] at h
    exact kf h hf H locs la hW hS hl

theorem r_if_eq {Y : gY} {cc : ByteArray} {own : String} {pc : Nat} {ls : List (Option Value)} {st : List Value} {σ : gM} {x : Int32} {off : Int} {tgt : Nat} {β : Type} {o : β} {E1 E2 : Option β} (hd : decode cc pc = .ok (.ifCond .eq off, 3)) (ht : (pc : Int) + off = (tgt : Int)) (h : (if x = 0 then E1 else E2) = some o) (kt : E1 = some o → AW Y cc own tgt ls st σ) (kf : E2 = some o → AW Y cc own (pc + 3) ls st σ) : AW Y cc own pc ls (.int x :: st) σ := by
  obtain ⟨G, u, nL, p, l, e, R, s, m, args, below, meth, c, cells, slots, Q⟩ := Y
  intro hf H locs la hW hS hl
  refine lv_if_eq hf.1 hf.2.1 hd ht (fun hc => ?_) (fun hc => ?_)
  · rw [if_pos hc] at h
    exact kt h hf H locs la hW hS hl
  · rw [if_neg hc] at h
    exact kf h hf H locs la hW hS hl

theorem r_if_lt {Y : gY} {cc : ByteArray} {own : String} {pc : Nat} {ls : List (Option Value)} {st : List Value} {σ : gM} {x : Int32} {off : Int} {tgt : Nat} {β : Type} {o : β} {E1 E2 : Option β} (hd : decode cc pc = .ok (.ifCond .lt off, 3)) (ht : (pc : Int) + off = (tgt : Int)) (h : (if x < 0 then E1 else E2) = some o) (kt : E1 = some o → AW Y cc own tgt ls st σ) (kf : E2 = some o → AW Y cc own (pc + 3) ls st σ) : AW Y cc own pc ls (.int x :: st) σ := by
  obtain ⟨G, u, nL, p, l, e, R, s, m, args, below, meth, c, cells, slots, Q⟩ := Y
  intro hf H locs la hW hS hl
  refine lv_if_lt hf.1 hf.2.1 hd ht (fun hc => ?_) (fun hc => ?_)
  · rw [if_pos hc] at h
    exact kt h hf H locs la hW hS hl
  · rw [if_neg hc] at h
    exact kf h hf H locs la hW hS hl

theorem r_if_ge {Y : gY} {cc : ByteArray} {own : String} {pc : Nat} {ls : List (Option Value)} {st : List Value} {σ : gM} {x : Int32} {off : Int} {tgt : Nat} {β : Type} {o : β} {E1 E2 : Option β} (hd : decode cc pc = .ok (.ifCond .ge off, 3)) (ht : (pc : Int) + off = (tgt : Int)) (h : (if 0 ≤ x then E1 else E2) = some o) (kt : E1 = some o → AW Y cc own tgt ls st σ) (kf : E2 = some o → AW Y cc own (pc + 3) ls st σ) : AW Y cc own pc ls (.int x :: st) σ := by
  obtain ⟨G, u, nL, p, l, e, R, s, m, args, below, meth, c, cells, slots, Q⟩ := Y
  intro hf H locs la hW hS hl
  refine lv_if_ge hf.1 hf.2.1 hd ht (fun hc => ?_) (fun hc => ?_)
  · rw [if_pos hc] at h
    exact kt h hf H locs la hW hS hl
  · rw [if_neg hc] at h
    exact kf h hf H locs la hW hS hl

theorem r_if_gt {Y : gY} {cc : ByteArray} {own : String} {pc : Nat} {ls : List (Option Value)} {st : List Value} {σ : gM} {x : Int32} {off : Int} {tgt : Nat} {β : Type} {o : β} {E1 E2 : Option β} (hd : decode cc pc = .ok (.ifCond .gt off, 3)) (ht : (pc : Int) + off = (tgt : Int)) (h : (if 0 < x then E1 else E2) = some o) (kt : E1 = some o → AW Y cc own tgt ls st σ) (kf : E2 = some o → AW Y cc own (pc + 3) ls st σ) : AW Y cc own pc ls (.int x :: st) σ := by
  obtain ⟨G, u, nL, p, l, e, R, s, m, args, below, meth, c, cells, slots, Q⟩ := Y
  intro hf H locs la hW hS hl
  refine lv_if_gt hf.1 hf.2.1 hd ht (fun hc => ?_) (fun hc => ?_)
  · rw [if_pos hc] at h
    exact kt h hf H locs la hW hS hl
  · rw [if_neg hc] at h
    exact kf h hf H locs la hW hS hl

theorem r_if_le {Y : gY} {cc : ByteArray} {own : String} {pc : Nat} {ls : List (Option Value)} {st : List Value} {σ : gM} {x : Int32} {off : Int} {tgt : Nat} {β : Type} {o : β} {E1 E2 : Option β} (hd : decode cc pc = .ok (.ifCond .le off, 3)) (ht : (pc : Int) + off = (tgt : Int)) (h : (if x ≤ 0 then E1 else E2) = some o) (kt : E1 = some o → AW Y cc own tgt ls st σ) (kf : E2 = some o → AW Y cc own (pc + 3) ls st σ) : AW Y cc own pc ls (.int x :: st) σ := by
  obtain ⟨G, u, nL, p, l, e, R, s, m, args, below, meth, c, cells, slots, Q⟩ := Y
  intro hf H locs la hW hS hl
  refine lv_if_le hf.1 hf.2.1 hd ht (fun hc => ?_) (fun hc => ?_)
  · rw [if_pos hc] at h
    exact kt h hf H locs la hW hS hl
  · rw [if_neg hc] at h
    exact kf h hf H locs la hW hS hl

theorem r_icmp_ne {Y : gY} {cc : ByteArray} {own : String} {pc : Nat} {ls : List (Option Value)} {st : List Value} {σ : gM} {x y : Int32} {off : Int} {tgt : Nat} {β : Type} {o : β} {E1 E2 : Option β} (hd : decode cc pc = .ok (.if_icmp .ne off, 3)) (ht : (pc : Int) + off = (tgt : Int)) (h : (if x = y then E2 else E1) = some o) (kt : E1 = some o → AW Y cc own tgt ls st σ) (kf : E2 = some o → AW Y cc own (pc + 3) ls st σ) : AW Y cc own pc ls (.int y :: .int x :: st) σ := by
  obtain ⟨G, u, nL, p, l, e, R, s, m, args, below, meth, c, cells, slots, Q⟩ := Y
  intro hf H locs la hW hS hl
  refine lv_icmp_ne hf.1 hf.2.1 hd ht (fun hc => ?_) (fun hc => ?_)
  · rw [if_neg hc] at h
    exact kt h hf H locs la hW hS hl
  · rw [if_pos hc] at h
    exact kf h hf H locs la hW hS hl

theorem r_if_ne {Y : gY} {cc : ByteArray} {own : String} {pc : Nat} {ls : List (Option Value)} {st : List Value} {σ : gM} {x : Int32} {off : Int} {tgt : Nat} {β : Type} {o : β} {E1 E2 : Option β} (hd : decode cc pc = .ok (.ifCond .ne off, 3)) (ht : (pc : Int) + off = (tgt : Int)) (h : (if x = 0 then E2 else E1) = some o) (kt : E1 = some o → AW Y cc own tgt ls st σ) (kf : E2 = some o → AW Y cc own (pc + 3) ls st σ) : AW Y cc own pc ls (.int x :: st) σ := by
  obtain ⟨G, u, nL, p, l, e, R, s, m, args, below, meth, c, cells, slots, Q⟩ := Y
  intro hf H locs la hW hS hl
  refine lv_if_ne hf.1 hf.2.1 hd ht (fun hc => ?_) (fun hc => ?_)
  · rw [if_neg hc] at h
    exact kt h hf H locs la hW hS hl
  · rw [if_pos hc] at h
    exact kf h hf H locs la hW hS hl

theorem r_mask {Y : gY} {cc : ByteArray} {own : String} {pc : Nat} {ls : List (Option Value)} {st : List Value} {σ : gM} {ls' : List (Option Value)} (bs : List Bool) (hs : gMask bs ls = ls') (k : AW Y cc own pc ls' st σ) : AW Y cc own pc ls (st) σ := by
  obtain ⟨G, u, nL, p, l, e, R, s, m, args, below, meth, c, cells, slots, Q⟩ := Y
  intro hf H locs la hW hS hl
  subst hs
  exact k hf H locs la hW hS (gMask_has bs hl)

theorem r_tabIn {Y : gY} {cc : ByteArray} {own : String} {pc : Nat} {ls : List (Option Value)} {st : List Value} {σ : gM} {dflt lo hi off : Int} {offs : Array Int} {len tgt : Nat} {x v : Int32} (hd : decode cc pc = .ok (.tableswitch dflt lo hi offs, len)) (hx : x = v) (h1 : ¬ v.toInt < lo) (h2 : ¬ hi < v.toInt) (ho : offs[(v.toInt - lo).toNat]? = some off) (ht : (pc : Int) + off = (tgt : Int)) (k : AW Y cc own tgt ls st σ) : AW Y cc own pc ls (.int x :: st) σ := by
  obtain ⟨G, u, nL, p, l, e, R, s, m, args, below, meth, c, cells, slots, Q⟩ := Y
  intro hf H locs la hW hS hl
  subst hx
  exact lv_tableIn hf.1 hf.2.1 hd h1 h2 ho ht (k hf H locs la hW hS hl)

theorem r_tabOut {Y : gY} {cc : ByteArray} {own : String} {pc : Nat} {ls : List (Option Value)} {st : List Value} {σ : gM} {dflt lo hi : Int} {offs : Array Int} {len tgt : Nat} {x : Int32} (hd : decode cc pc = .ok (.tableswitch dflt lo hi offs, len)) (h1 : x.toInt < lo ∨ hi < x.toInt) (ht : (pc : Int) + dflt = (tgt : Int)) (k : AW Y cc own tgt ls st σ) : AW Y cc own pc ls (.int x :: st) σ := by
  obtain ⟨G, u, nL, p, l, e, R, s, m, args, below, meth, c, cells, slots, Q⟩ := Y
  intro hf H locs la hW hS hl
  exact lv_tableOut hf.1 hf.2.1 hd h1 ht (k hf H locs la hW hS hl)

theorem r_lookup {Y : gY} {cc : ByteArray} {own : String} {pc : Nat} {ls : List (Option Value)} {st : List Value} {σ : gM} {dflt off : Int} {ps : Array (Int × Int)} {len tgt : Nat} {x : Int32} (hd : decode cc pc = .ok (.lookupswitch dflt ps, len)) (hp : (ps.toList.zip (ps.toList.drop 1)).all (fun (a, next) => a.1 < next.1) = true) (ho : Op.lookupswitch.offset ps.toList dflt x.toInt = off) (ht : (pc : Int) + off = (tgt : Int)) (k : AW Y cc own tgt ls st σ) : AW Y cc own pc ls (.int x :: st) σ := by
  obtain ⟨G, u, nL, p, l, e, R, s, m, args, below, meth, c, cells, slots, Q⟩ := Y
  intro hf H locs la hW hS hl
  exact lv_lookup hf.1 hf.2.1 hd hp ho ht (k hf H locs la hW hS hl)
