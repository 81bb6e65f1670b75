/-! the law's own end -/
def gEndL (Y : gY) : Prop := match Y with
  | (G, _, _, _, _, _, R, s, _, args, below, meth, _, cells, slots, Q) => R = room_1 ∧ (∃ b : Nat, args = #[Value.ref b] ∧ Q = lw_Z below #[Value.ref b] s) ∧ meth.sig.returnType = ret ∧ meth.locks = false ∧ s.heap.size = G.2.2.2 ∧ cells + 60000 ≤ 600104 ∧ slots + 360000 ≤ 7301314
theorem r_lretA {τ : Type} {I : τ → gM → Prop} {Y : gY} {pc : Nat} {ls : List (Option Value)} {m : gM} {s : τ × Nat} {x : Int32} {o : τ × Int32} (hd : decode cL_law pc = .ok (.ireturn, 1)) (h : gRz .boolean x (gRN 60000 s x) = some o) (ho : o.2 = 1) (he : gEndL Y) : AW (gYn Y s.2) cL_law RL pc ls [.int x] m := by
  unfold gRz at h
  split at h
  · obtain ⟨hk, rfl⟩ := gRN_some h
    have hx : x = 1 := ho
    subst hx
    obtain ⟨G, u, nL, p, l, e, R, s0, mi, args, below, meth, c, cells, slots, Q⟩ := Y
    intro hf H locs la hW hS hl
    obtain ⟨rfl, ⟨b, rfl, rfl⟩, h3, h4, h5, h6, h7⟩ := he
    refine va_forget (fun q hq => by
      have := hS.2.2 q hq
      rw [h5]
      exact this) ?_
    refine W.widen (k := 600104) (n := 7301314) (show cells + s.2 ≤ 600104 by omega) (show slots + 6 * s.2 ≤ 7301314 by omega) ?_
    exact lw_ret hf.1 hf.2.1 h3 h4 hd
  · cases h
