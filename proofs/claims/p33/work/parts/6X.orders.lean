/-! the orders that are tried -/
def tellI : Nat → Int32 → Int32 → Int32 → Option Int32
  | 0, _, _, _ => none
  | n + 1, v1, v2, v3 => (if 4 ≤ v3 then (if v1 = 15 then some 1 else some 0) else tellI n (v1 ||| (1 <<< ((v2 - v2 / 4 * 4) &&& 31))) (v2 / 4) (v3 + 1))
theorem tellI_eq : ∀ (n : Nat) (v1 v2 v3 : Int32) (m : gM), fX5_tellEachStreet_L6 n v1 v2 v3 m = (tellI n v1 v2 v3).map (fun x => (m, x))
  | 0, _, _, _, _ => rfl
  | n + 1, v1, v2, v3, m => by
    unfold fX5_tellEachStreet_L6 tellI
    by_cases c : 4 ≤ v3
    · rw [if_pos c, if_pos c]
      by_cases d : v1 = 15
      · rw [if_pos d, if_pos d]; rfl
      · rw [if_neg d, if_neg d]; rfl
    · rw [if_neg c, if_neg c, gLtI, gLtI, gLtI]
      exact tellI_eq n _ _ _ m
def orderI : Nat → Int32 → Int32 → Int32 → Option Int32
  | 0, _, _, _ => none
  | n + 1, v1, v2, v3 => (if 4 ≤ v3 then (if v1 = 15 then some 1 else some 0) else orderI n (v1 ||| ((if 4 ≤ (v2 - v2 / 10 * 10) then 0 else (1 <<< ((v2 - v2 / 10 * 10) &&& 31))) : Int32)) (v2 / 10) (v3 + 1))
/-- four places that are all four streets -/
def okO (a b c d : Nat) : Bool := a < 4 && b < 4 && c < 4 && d < 4 && a != b && a != c && a != d && b != c && b != d && c != d
def okC (v : Nat) : Bool := okO (v / 64) (v / 16 % 4) (v / 4 % 4) (v % 4)
def okR (v : Nat) : Bool := okO (v / 1000) (v / 100 % 10) (v / 10 % 10) (v % 10)
theorem tell_at (v : Nat) (hv : v < 256) : tellI 5 0 (i3 v) 0 = some (bI (okC v)) := by
  have h : (List.range 256).all (fun v => decide (tellI 5 0 (i3 v) 0 = some (bI (okC v)))) = true := by decide +kernel
  exact of_decide_eq_true (List.all_eq_true.mp h v (List.mem_range.mpr hv))
theorem order_at (v : Nat) (hv : v < 3211) : orderI 5 0 (i3 v) 0 = some (bI (okR v)) := by
  have h : (List.range 3211).all (fun v => decide (orderI 5 0 (i3 v) 0 = some (bI (okR v)))) = true := by decide +kernel
  exact of_decide_eq_true (List.all_eq_true.mp h v (List.mem_range.mpr hv))
theorem tellI_more : ∀ (n k : Nat) (v1 v2 v3 : Int32) (x : Int32), tellI n v1 v2 v3 = some x → tellI (n + k) v1 v2 v3 = some x
  | 0, _, _, _, _, _, h => by cases h
  | n + 1, k, v1, v2, v3, x, h => by
    rw [show n + 1 + k = (n + k) + 1 from by omega]
    unfold tellI at h ⊢
    split at h
    · rename_i c
      rw [if_pos c]
      exact h
    · rename_i c
      rw [if_neg c]
      exact tellI_more n k _ _ _ x h
theorem orderI_more : ∀ (n k : Nat) (v1 v2 v3 : Int32) (x : Int32), orderI n v1 v2 v3 = some x → orderI (n + k) v1 v2 v3 = some x
  | 0, _, _, _, _, _, h => by cases h
  | n + 1, k, v1, v2, v3, x, h => by
    rw [show n + 1 + k = (n + k) + 1 from by omega]
    unfold orderI at h ⊢
    split at h
    · rename_i c
      rw [if_pos c]
      exact h
    · rename_i c
      rw [if_neg c]
      exact orderI_more n k _ _ _ x h
theorem c_tell {v : Nat} (hv : v < 256) (m : gM) : fX5_tellEachStreet (i3 v) m = some (m, bI (okC v)) := by
  unfold fX5_tellEachStreet
  rw [tellI_eq, show gFU = 5 + 4995 from rfl, tellI_more 5 4995 _ _ _ _ (tell_at v hv)]
  rfl
/-- base four to tens -/
def decO (v : Nat) : Nat := 1000 * (v / 64) + 100 * (v / 16 % 4) + 10 * (v / 4 % 4) + v % 4
theorem orders : ((List.range' 0 256).filter okC).map decO = (List.range' 123 3088).filter okR := by decide +kernel
