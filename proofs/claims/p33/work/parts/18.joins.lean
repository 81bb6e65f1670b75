/-! branches that give their condition; arms that meet again -/
theorem r_icmpC_eq {Y : gY} {cc : ByteArray} {own : String} {pc : Nat} {ls : List (Option Value)} {st : List Value} {σ : gM} {x y : Int32} {off : Int} {tgt : Nat} (hd : decode cc pc = .ok (.if_icmp .eq off, 3)) (ht : (pc : Int) + off = (tgt : Int)) (kt : x = y → AW Y cc own tgt ls st σ) (kf : ¬ x = y → AW Y cc own (pc + 3) ls st σ) : AW Y cc own pc ls (.int y :: .int x :: st) σ := by
  obtain ⟨G, u, nL, p, l, e, R, s, m, args, below, meth, c, cells, slots, Q⟩ := Y
  intro hf H locs la hW hS hl
  refine lv_icmp_eq hf.1 hf.2.1 hd ht (fun hc => ?_) (fun hc => ?_)
  · exact kt hc hf H locs la hW hS hl
  · exact kf hc hf H locs la hW hS hl
theorem r_icmpC_lt {Y : gY} {cc : ByteArray} {own : String} {pc : Nat} {ls : List (Option Value)} {st : List Value} {σ : gM} {x y : Int32} {off : Int} {tgt : Nat} (hd : decode cc pc = .ok (.if_icmp .lt off, 3)) (ht : (pc : Int) + off = (tgt : Int)) (kt : x < y → AW Y cc own tgt ls st σ) (kf : ¬ x < y → AW Y cc own (pc + 3) ls st σ) : AW Y cc own pc ls (.int y :: .int x :: st) σ := by
  obtain ⟨G, u, nL, p, l, e, R, s, m, args, below, meth, c, cells, slots, Q⟩ := Y
  intro hf H locs la hW hS hl
  refine lv_icmp_lt hf.1 hf.2.1 hd ht (fun hc => ?_) (fun hc => ?_)
  · exact kt hc hf H locs la hW hS hl
  · exact kf hc hf H locs la hW hS hl
theorem r_icmpC_ge {Y : gY} {cc : ByteArray} {own : String} {pc : Nat} {ls : List (Option Value)} {st : List Value} {σ : gM} {x y : Int32} {off : Int} {tgt : Nat} (hd : decode cc pc = .ok (.if_icmp .ge off, 3)) (ht : (pc : Int) + off = (tgt : Int)) (kt : y ≤ x → AW Y cc own tgt ls st σ) (kf : ¬ y ≤ x → AW Y cc own (pc + 3) ls st σ) : AW Y cc own pc ls (.int y :: .int x :: st) σ := by
  obtain ⟨G, u, nL, p, l, e, R, s, m, args, below, meth, c, cells, slots, Q⟩ := Y
  intro hf H locs la hW hS hl
  refine lv_icmp_ge hf.1 hf.2.1 hd ht (fun hc => ?_) (fun hc => ?_)
  · exact kt hc hf H locs la hW hS hl
  · exact kf hc hf H locs la hW hS hl
theorem r_icmpC_gt {Y : gY} {cc : ByteArray} {own : String} {pc : Nat} {ls : List (Option Value)} {st : List Value} {σ : gM} {x y : Int32} {off : Int} {tgt : Nat} (hd : decode cc pc = .ok (.if_icmp .gt off, 3)) (ht : (pc : Int) + off = (tgt : Int)) (kt : y < x → AW Y cc own tgt ls st σ) (kf : ¬ y < x → AW Y cc own (pc + 3) ls st σ) : AW Y cc own pc ls (.int y :: .int x :: st) σ := by
  obtain ⟨G, u, nL, p, l, e, R, s, m, args, below, meth, c, cells, slots, Q⟩ := Y
  intro hf H locs la hW hS hl
  refine lv_icmp_gt hf.1 hf.2.1 hd ht (fun hc => ?_) (fun hc => ?_)
  · exact kt hc hf H locs la hW hS hl
  · exact kf hc hf H locs la hW hS hl
theorem r_icmpC_le {Y : gY} {cc : ByteArray} {own : String} {pc : Nat} {ls : List (Option Value)} {st : List Value} {σ : gM} {x y : Int32} {off : Int} {tgt : Nat} (hd : decode cc pc = .ok (.if_icmp .le off, 3)) (ht : (pc : Int) + off = (tgt : Int)) (kt : x ≤ y → AW Y cc own tgt ls st σ) (kf : ¬ x ≤ y → AW Y cc own (pc + 3) ls st σ) : AW Y cc own pc ls (.int y :: .int x :: st) σ := by
  obtain ⟨G, u, nL, p, l, e, R, s, m, args, below, meth, c, cells, slots, Q⟩ := Y
  intro hf H locs la hW hS hl
  refine lv_icmp_le hf.1 hf.2.1 hd ht (fun hc => ?_) (fun hc => ?_)
  · exact kt hc hf H locs la hW hS hl
  · exact kf hc hf H locs la hW hS hl
theorem r_ifC_eq {Y : gY} {cc : ByteArray} {own : String} {pc : Nat} {ls : List (Option Value)} {st : List Value} {σ : gM} {x : Int32} {off : Int} {tgt : Nat} (hd : decode cc pc = .ok (.ifCond .eq off, 3)) (ht : (pc : Int) + off = (tgt : Int)) (kt : x = 0 → AW Y cc own tgt ls st σ) (kf : ¬ x = 0 → AW Y cc own (pc + 3) ls st σ) : AW Y cc own pc ls (.int x :: st) σ := by
  obtain ⟨G, u, nL, p, l, e, R, s, m, args, below, meth, c, cells, slots, Q⟩ := Y
  intro hf H locs la hW hS hl
  refine lv_if_eq hf.1 hf.2.1 hd ht (fun hc => ?_) (fun hc => ?_)
  · exact kt hc hf H locs la hW hS hl
  · exact kf hc hf H locs la hW hS hl
theorem r_ifC_lt {Y : gY} {cc : ByteArray} {own : String} {pc : Nat} {ls : List (Option Value)} {st : List Value} {σ : gM} {x : Int32} {off : Int} {tgt : Nat} (hd : decode cc pc = .ok (.ifCond .lt off, 3)) (ht : (pc : Int) + off = (tgt : Int)) (kt : x < 0 → AW Y cc own tgt ls st σ) (kf : ¬ x < 0 → AW Y cc own (pc + 3) ls st σ) : AW Y cc own pc ls (.int x :: st) σ := by
  obtain ⟨G, u, nL, p, l, e, R, s, m, args, below, meth, c, cells, slots, Q⟩ := Y
  intro hf H locs la hW hS hl
  refine lv_if_lt hf.1 hf.2.1 hd ht (fun hc => ?_) (fun hc => ?_)
  · exact kt hc hf H locs la hW hS hl
  · exact kf hc hf H locs la hW hS hl
theorem r_ifC_ge {Y : gY} {cc : ByteArray} {own : String} {pc : Nat} {ls : List (Option Value)} {st : List Value} {σ : gM} {x : Int32} {off : Int} {tgt : Nat} (hd : decode cc pc = .ok (.ifCond .ge off, 3)) (ht : (pc : Int) + off = (tgt : Int)) (kt : 0 ≤ x → AW Y cc own tgt ls st σ) (kf : ¬ 0 ≤ x → AW Y cc own (pc + 3) ls st σ) : AW Y cc own pc ls (.int x :: st) σ := by
  obtain ⟨G, u, nL, p, l, e, R, s, m, args, below, meth, c, cells, slots, Q⟩ := Y
  intro hf H locs la hW hS hl
  refine lv_if_ge hf.1 hf.2.1 hd ht (fun hc => ?_) (fun hc => ?_)
  · exact kt hc hf H locs la hW hS hl
  · exact kf hc hf H locs la hW hS hl
theorem r_ifC_gt {Y : gY} {cc : ByteArray} {own : String} {pc : Nat} {ls : List (Option Value)} {st : List Value} {σ : gM} {x : Int32} {off : Int} {tgt : Nat} (hd : decode cc pc = .ok (.ifCond .gt off, 3)) (ht : (pc : Int) + off = (tgt : Int)) (kt : 0 < x → AW Y cc own tgt ls st σ) (kf : ¬ 0 < x → AW Y cc own (pc + 3) ls st σ) : AW Y cc own pc ls (.int x :: st) σ := by
  obtain ⟨G, u, nL, p, l, e, R, s, m, args, below, meth, c, cells, slots, Q⟩ := Y
  intro hf H locs la hW hS hl
  refine lv_if_gt hf.1 hf.2.1 hd ht (fun hc => ?_) (fun hc => ?_)
  · exact kt hc hf H locs la hW hS hl
  · exact kf hc hf H locs la hW hS hl
theorem r_ifC_le {Y : gY} {cc : ByteArray} {own : String} {pc : Nat} {ls : List (Option Value)} {st : List Value} {σ : gM} {x : Int32} {off : Int} {tgt : Nat} (hd : decode cc pc = .ok (.ifCond .le off, 3)) (ht : (pc : Int) + off = (tgt : Int)) (kt : x ≤ 0 → AW Y cc own tgt ls st σ) (kf : ¬ x ≤ 0 → AW Y cc own (pc + 3) ls st σ) : AW Y cc own pc ls (.int x :: st) σ := by
  obtain ⟨G, u, nL, p, l, e, R, s, m, args, below, meth, c, cells, slots, Q⟩ := Y
  intro hf H locs la hW hS hl
  refine lv_if_le hf.1 hf.2.1 hd ht (fun hc => ?_) (fun hc => ?_)
  · exact kt hc hf H locs la hW hS hl
  · exact kf hc hf H locs la hW hS hl
theorem r_icmpC_ne {Y : gY} {cc : ByteArray} {own : String} {pc : Nat} {ls : List (Option Value)} {st : List Value} {σ : gM} {x y : Int32} {off : Int} {tgt : Nat} (hd : decode cc pc = .ok (.if_icmp .ne off, 3)) (ht : (pc : Int) + off = (tgt : Int)) (kt : ¬ x = y → AW Y cc own tgt ls st σ) (kf : x = y → AW Y cc own (pc + 3) ls st σ) : AW Y cc own pc ls (.int y :: .int x :: st) σ := by
  obtain ⟨G, u, nL, p, l, e, R, s, m, args, below, meth, c, cells, slots, Q⟩ := Y
  intro hf H locs la hW hS hl
  refine lv_icmp_ne hf.1 hf.2.1 hd ht (fun hc => ?_) (fun hc => ?_)
  · exact kt hc hf H locs la hW hS hl
  · exact kf hc hf H locs la hW hS hl
theorem r_ifC_ne {Y : gY} {cc : ByteArray} {own : String} {pc : Nat} {ls : List (Option Value)} {st : List Value} {σ : gM} {x : Int32} {off : Int} {tgt : Nat} (hd : decode cc pc = .ok (.ifCond .ne off, 3)) (ht : (pc : Int) + off = (tgt : Int)) (kt : ¬ x = 0 → AW Y cc own tgt ls st σ) (kf : x = 0 → AW Y cc own (pc + 3) ls st σ) : AW Y cc own pc ls (.int x :: st) σ := by
  obtain ⟨G, u, nL, p, l, e, R, s, m, args, below, meth, c, cells, slots, Q⟩ := Y
  intro hf H locs la hW hS hl
  refine lv_if_ne hf.1 hf.2.1 hd ht (fun hc => ?_) (fun hc => ?_)
  · exact kt hc hf H locs la hW hS hl
  · exact kf hc hf H locs la hW hS hl
section GAC
variable {Y : gY} {cc : ByteArray} {own : String} {pc : Nat} {ls : List (Option Value)} {st : List Value} {σ : gM}
theorem r_acmpC_eq {a b : Nat} {off : Int} {tgt : Nat} (hd : decode cc pc = .ok (.if_acmp .eq off, 3)) (ht : (pc : Int) + off = (tgt : Int)) (ha : gEnumOk a) (hb : gEnumOk b) (kt : a = b → AW Y cc own tgt ls st σ) (kf : ¬ a = b → AW Y cc own (pc + 3) ls st σ) : AW Y cc own pc ls (.ref b :: .ref a :: st) σ := by
  obtain ⟨G, u, nL, p, l, e, R, s, m, args, below, meth, c, cells, slots, Q⟩ := Y
  intro hf H locs la hW hS hlv
  have hE := hW.2.2.2.1.1.2
  refine lv_acmp_eq (rx := some (G.2.2.1 a)) (ry := some (G.2.2.1 b)) hf.1 hf.2.1 hd ht (fun hc => ?_) (fun hc => ?_)
  · have hab : a = b := by
      have h1 := hE (a - 20000) (b - 20000) (by have := ha.1; have := ha.2; show a - 20000 < 4; omega) (by have := hb.1; have := hb.2; show b - 20000 < 4; omega) (by
        show G.2.2.1 (20000 + (a - 20000)) = G.2.2.1 (20000 + (b - 20000))
        rw [show 20000 + (a - 20000) = a by have := ha.1; omega, show 20000 + (b - 20000) = b by have := hb.1; omega]
        exact Option.some.inj hc)
      have := ha.1
      have := hb.1
      omega
    exact kt hab hf H locs la hW hS hlv
  · exact kf (fun q => hc (by rw [q])) hf H locs la hW hS hlv
end GAC
theorem r_swC {c : Prop} [Decidable c] {P : Prop} (kt : c → P) (kf : ¬ c → P) : P := by
  by_cases hc : c
  · exact kt hc
  · exact kf hc
theorem r_jn1 {α : Type} {β : Type} {o : β} {V : α} {E : α → Option β} {P : Prop} (h : gLt V E = some o) (J : α → Prop) (kJ : ∀ x, E x = some o → J x) (k : (∀ x, x = V → J x) → P) : P := k (fun x hx => kJ x (by rw [hx]; exact h))
theorem r_jn2 {α α1 : Type} {β : Type} {o : β} {V : α} {V1 : α1} {E : α → α1 → Option β} {P : Prop} (h : gLt V (fun x => gLt V1 (fun y => E x y)) = some o) (J : α → α1 → Prop) (kJ : ∀ x y, E x y = some o → J x y) (k : (∀ x y, x = V → y = V1 → J x y) → P) : P := k (fun x y hx hy => kJ x y (by rw [hx, hy]; exact h))
theorem r_jn3 {α α1 α2 : Type} {β : Type} {o : β} {V : α} {V1 : α1} {V2 : α2} {E : α → α1 → α2 → Option β} {P : Prop} (h : gLt V (fun x => gLt V1 (fun y => gLt V2 (fun z => E x y z))) = some o) (J : α → α1 → α2 → Prop) (kJ : ∀ x y z, E x y z = some o → J x y z) (k : (∀ x y z, x = V → y = V1 → z = V2 → J x y z) → P) : P := k (fun x y z hx hy hz => kJ x y z (by rw [hx, hy, hz]; exact h))
theorem r_jnK {α : Type} {β : Type} {o : β} {K : α} {B : α → Option β} {P : Prop} (h : gLt K B = some o) (Jp : α → Prop) (kJ : Jp K) (k : ∀ K, Jp K → B K = some o → P) : P := k K kJ h
/-- a function of the flat memory that may throw: 0 and what it answers, or the number of its exception -/
def gDem (e : Nat) (x : Int32) (m : gM) (k : Option (gM × Nat × Int32)) : Option (gM × Nat × Int32) := if x = 0 then some (m, e, 0) else k
def gClX (F : Option (gM × Nat × Int32)) (k : gM → Int32 → Option (gM × Nat × Int32)) : Option (gM × Nat × Int32) := match F with | none => none | some q => if q.2.1 = 0 then k q.1 q.2.2 else some (q.1, q.2.1, 0)
