/-! naturals as ints; rows of pure functions -/
def i3 (n : Nat) : Int32 := Int32.ofNat n
def bI (b : Bool) : Int32 := if b then 1 else 0
theorem n0 : (0 : Int32) = i3 0 := rfl
theorem n1 : (1 : Int32) = i3 1 := rfl
theorem n2 : (2 : Int32) = i3 2 := rfl
theorem n3 : (3 : Int32) = i3 3 := rfl
theorem n4 : (4 : Int32) = i3 4 := rfl
theorem n5 : (5 : Int32) = i3 5 := rfl
theorem n6 : (6 : Int32) = i3 6 := rfl
theorem n7 : (7 : Int32) = i3 7 := rfl
theorem n8 : (8 : Int32) = i3 8 := rfl
theorem n9 : (9 : Int32) = i3 9 := rfl
theorem n10 : (10 : Int32) = i3 10 := rfl
theorem n11 : (11 : Int32) = i3 11 := rfl
theorem n12 : (12 : Int32) = i3 12 := rfl
theorem n13 : (13 : Int32) = i3 13 := rfl
theorem n14 : (14 : Int32) = i3 14 := rfl
theorem n15 : (15 : Int32) = i3 15 := rfl
theorem n16 : (16 : Int32) = i3 16 := rfl
theorem n17 : (17 : Int32) = i3 17 := rfl
theorem n18 : (18 : Int32) = i3 18 := rfl
theorem n19 : (19 : Int32) = i3 19 := rfl
theorem n20 : (20 : Int32) = i3 20 := rfl
theorem n21 : (21 : Int32) = i3 21 := rfl
theorem n22 : (22 : Int32) = i3 22 := rfl
theorem n23 : (23 : Int32) = i3 23 := rfl
theorem n24 : (24 : Int32) = i3 24 := rfl
theorem n25 : (25 : Int32) = i3 25 := rfl
theorem n28 : (28 : Int32) = i3 28 := rfl
theorem n30 : (30 : Int32) = i3 30 := rfl
theorem n31 : (31 : Int32) = i3 31 := rfl
theorem n32 : (32 : Int32) = i3 32 := rfl
theorem n33 : (33 : Int32) = i3 33 := rfl
theorem n40 : (40 : Int32) = i3 40 := rfl
theorem n42 : (42 : Int32) = i3 42 := rfl
theorem n43 : (43 : Int32) = i3 43 := rfl
theorem n45 : (45 : Int32) = i3 45 := rfl
theorem n46 : (46 : Int32) = i3 46 := rfl
theorem n47 : (47 : Int32) = i3 47 := rfl
theorem n48 : (48 : Int32) = i3 48 := rfl
theorem n49 : (49 : Int32) = i3 49 := rfl
theorem n53 : (53 : Int32) = i3 53 := rfl
theorem n54 : (54 : Int32) = i3 54 := rfl
theorem n57 : (57 : Int32) = i3 57 := rfl
theorem n58 : (58 : Int32) = i3 58 := rfl
theorem n60 : (60 : Int32) = i3 60 := rfl
theorem n61 : (61 : Int32) = i3 61 := rfl
theorem n63 : (63 : Int32) = i3 63 := rfl
theorem n64 : (64 : Int32) = i3 64 := rfl
theorem n66 : (66 : Int32) = i3 66 := rfl
theorem n68 : (68 : Int32) = i3 68 := rfl
theorem n71 : (71 : Int32) = i3 71 := rfl
theorem n73 : (73 : Int32) = i3 73 := rfl
theorem n74 : (74 : Int32) = i3 74 := rfl
theorem n83 : (83 : Int32) = i3 83 := rfl
theorem n85 : (85 : Int32) = i3 85 := rfl
theorem n89 : (89 : Int32) = i3 89 := rfl
theorem n93 : (93 : Int32) = i3 93 := rfl
theorem n94 : (94 : Int32) = i3 94 := rfl
theorem n99 : (99 : Int32) = i3 99 := rfl
theorem n100 : (100 : Int32) = i3 100 := rfl
theorem n101 : (101 : Int32) = i3 101 := rfl
theorem n102 : (102 : Int32) = i3 102 := rfl
theorem n103 : (103 : Int32) = i3 103 := rfl
theorem n104 : (104 : Int32) = i3 104 := rfl
theorem n105 : (105 : Int32) = i3 105 := rfl
theorem n106 : (106 : Int32) = i3 106 := rfl
theorem n107 : (107 : Int32) = i3 107 := rfl
theorem n108 : (108 : Int32) = i3 108 := rfl
theorem n109 : (109 : Int32) = i3 109 := rfl
theorem n110 : (110 : Int32) = i3 110 := rfl
theorem n111 : (111 : Int32) = i3 111 := rfl
theorem n112 : (112 : Int32) = i3 112 := rfl
theorem n113 : (113 : Int32) = i3 113 := rfl
theorem n114 : (114 : Int32) = i3 114 := rfl
theorem n115 : (115 : Int32) = i3 115 := rfl
theorem n116 : (116 : Int32) = i3 116 := rfl
theorem n117 : (117 : Int32) = i3 117 := rfl
theorem n118 : (118 : Int32) = i3 118 := rfl
theorem n119 : (119 : Int32) = i3 119 := rfl
theorem n120 : (120 : Int32) = i3 120 := rfl
theorem n123 : (123 : Int32) = i3 123 := rfl
theorem n128 : (128 : Int32) = i3 128 := rfl
theorem n132 : (132 : Int32) = i3 132 := rfl
theorem n138 : (138 : Int32) = i3 138 := rfl
theorem n139 : (139 : Int32) = i3 139 := rfl
theorem n142 : (142 : Int32) = i3 142 := rfl
theorem n161 : (161 : Int32) = i3 161 := rfl
theorem n162 : (162 : Int32) = i3 162 := rfl
theorem n163 : (163 : Int32) = i3 163 := rfl
theorem n164 : (164 : Int32) = i3 164 := rfl
theorem n184 : (184 : Int32) = i3 184 := rfl
theorem n186 : (186 : Int32) = i3 186 := rfl
theorem n191 : (191 : Int32) = i3 191 := rfl
theorem n200 : (200 : Int32) = i3 200 := rfl
theorem n207 : (207 : Int32) = i3 207 := rfl
theorem n255 : (255 : Int32) = i3 255 := rfl
theorem n256 : (256 : Int32) = i3 256 := rfl
theorem n258 : (258 : Int32) = i3 258 := rfl
theorem n308 : (308 : Int32) = i3 308 := rfl
theorem n436 : (436 : Int32) = i3 436 := rfl
theorem n500 : (500 : Int32) = i3 500 := rfl
theorem n512 : (512 : Int32) = i3 512 := rfl
theorem n516 : (516 : Int32) = i3 516 := rfl
theorem n744 : (744 : Int32) = i3 744 := rfl
theorem n761 : (761 : Int32) = i3 761 := rfl
theorem n999 : (999 : Int32) = i3 999 := rfl
theorem n1000 : (1000 : Int32) = i3 1000 := rfl
theorem n3210 : (3210 : Int32) = i3 3210 := rfl
theorem n3354 : (3354 : Int32) = i3 3354 := rfl
theorem n3612 : (3612 : Int32) = i3 3612 := rfl
theorem n5075 : (5075 : Int32) = i3 5075 := rfl
theorem n5077 : (5077 : Int32) = i3 5077 := rfl
theorem n5704 : (5704 : Int32) = i3 5704 := rfl
theorem n6340 : (6340 : Int32) = i3 6340 := rfl
theorem n9952 : (9952 : Int32) = i3 9952 := rfl
theorem n10000 : (10000 : Int32) = i3 10000 := rfl
theorem n10468 : (10468 : Int32) = i3 10468 := rfl
theorem n20000 : (20000 : Int32) = i3 20000 := rfl
theorem n20001 : (20001 : Int32) = i3 20001 := rfl
theorem n20002 : (20002 : Int32) = i3 20002 := rfl
theorem n20003 : (20003 : Int32) = i3 20003 := rfl
theorem n20030 : (20030 : Int32) = i3 20030 := rfl
theorem n65536 : (65536 : Int32) = i3 65536 := rfl
theorem n100000 : (100000 : Int32) = i3 100000 := rfl
theorem n1000000 : (1000000 : Int32) = i3 1000000 := rfl
theorem n9999999 : (9999999 : Int32) = i3 9999999 := rfl
theorem n10000000 : (10000000 : Int32) = i3 10000000 := rfl
theorem i3a (a b : Nat) : i3 a + i3 b = i3 (a + b) := (Int32.ofNat_add a b).symm
theorem i3m (a b : Nat) : i3 a * i3 b = i3 (a * b) := (Int32.ofNat_mul a b).symm
theorem i3s {a b : Nat} (h : b ≤ a) : i3 a - i3 b = i3 (a - b) := (Int32.ofNat_sub a b h).symm
theorem i3lt {a b : Nat} (ha : a < 2147483648) (hb : b < 2147483648) : (i3 a < i3 b) = (a < b) := propext (Int32.ofNat_lt_iff_lt ha hb)
theorem i3le {a b : Nat} (ha : a < 2147483648) (hb : b < 2147483648) : (i3 a ≤ i3 b) = (a ≤ b) := propext (Int32.ofNat_le_iff_le ha hb)
theorem i3t {a : Nat} (ha : a < 2147483648) : (i3 a).toInt = a := Int32.toInt_ofNat_of_lt ha
theorem i3e {a b : Nat} (ha : a < 2147483648) (hb : b < 2147483648) : (i3 a = i3 b) = (a = b) := propext ⟨fun h => by
  have h1 := congrArg Int32.toInt h
  rw [i3t ha, i3t hb] at h1
  omega, fun h => by rw [h]⟩
theorem i3d {a b : Nat} (ha : a < 2147483648) (hb : b < 2147483648) : i3 a / i3 b = i3 (a / b) := (Int32.ofNat_div ha hb).symm
theorem i3r {a b : Nat} (ha : a < 2147483648) (hb : b < 2147483648) : i3 a - i3 a / i3 b * i3 b = i3 (a % b) := by
  rw [i3d ha hb, i3m, i3s (Nat.div_mul_le_self a b), Nat.mod_def, Nat.mul_comm]
theorem i3c {a : Nat} (ha : a < 2147483648) : (i3 a).toNatClampNeg = a := Int32.toNatClampNeg_ofNat_of_lt ha
theorem i3n {a : Nat} (ha : a < 2147483648) : ¬ i3 a < 0 := by
  rw [n0, i3lt ha (by omega)]
  omega
theorem i3x (x : Int32) (h : 0 ≤ x.toInt) : ∃ n : Nat, x = i3 n ∧ n < 2147483648 ∧ (n : Int) = x.toInt := by
  have h2 := x.toInt_lt
  refine ⟨x.toInt.toNat, ?_, by omega, by omega⟩
  apply Int32.toInt_inj.mp
  rw [i3t (by omega)]
  omega
theorem gRdI {β : Type} {σ : gM} {a n i : Nat} {k : Int32 → Option β} (hi : i < n) (hn : n ≤ 100000) : gRd σ a n (i3 i) k = k (σ (a + i)) := by
  unfold gRd
  rw [i3c (by omega), if_neg]
  intro q
  rcases q with q | q
  · exact i3n (by omega) q
  · omega
theorem gWrI {β : Type} {σ : gM} {a n i : Nat} {x : Int32} {k : gM → Option β} (hi : i < n) (hn : n ≤ 100000) : gWr σ a n (i3 i) x k = k (upd σ (a + i) x) := by
  unfold gWr
  rw [i3c (by omega), if_neg]
  intro q
  rcases q with q | q
  · exact i3n (by omega) q
  · omega
theorem gElI {β : Type} {n i : Nat} {k : Nat → Option β} (hi : i < n) (hn : n ≤ 100000) : gEl n (i3 i) k = k i := by
  unfold gEl
  rw [i3c (by omega), if_neg]
  intro q
  rcases q with q | q
  · exact i3n (by omega) q
  · omega
theorem gClI {α β : Type} (m : gM) (x : α) (k : gM → α → Option β) : gCl (some (m, x)) k = k m x := rfl
theorem gCvI {β : Type} (m : gM) (k : gM → Option β) : gCv (some m) k = k m := rfl
theorem gLtI {α β : Type} (a : α) (k : α → Option β) : gLt a k = k a := rfl
theorem gRzB {β : Type} (b : Bool) (k : Option β) : gRz .boolean (bI b) k = k := by
  cases b <;> rfl
theorem gRz0 {β : Type} (k : Option β) : gRz .boolean 0 k = k := rfl
theorem gRz1 {β : Type} (k : Option β) : gRz .boolean 1 k = k := rfl
theorem bIt : bI true = 1 := rfl
theorem bIf : bI false = 0 := rfl
theorem bI0 (b : Bool) : (bI b = 0) = (b = false) := by cases b <;> decide
theorem upd_s {σ : gM} {a : Nat} {x : Int32} : upd σ a x a = x := by simp [upd]
theorem upd_n {σ : gM} {a y : Nat} {x : Int32} (h : y ≠ a) : upd σ a x y = σ y := by simp [upd, h]
/-- x lies between a and b -/
def wi (x : Int32) (a b : Int) : Bool := decide (a ≤ x.toInt ∧ x.toInt ≤ b)
theorem wiN {n a b : Nat} (hn : n < 2147483648) : wi (i3 n) a b = decide (a ≤ n ∧ n ≤ b) := by
  unfold wi
  rw [i3t hn]
  congr 1
  exact propext ⟨fun h => ⟨by omega, by omega⟩, fun h => ⟨by omega, by omega⟩⟩
theorem wi_x {x : Int32} {a b : Int} (h : wi x a b = true) (ha : 0 ≤ a) : ∃ n : Nat, x = i3 n ∧ a ≤ n ∧ (n : Int) ≤ b ∧ n < 2147483648 := by
  unfold wi at h
  have h1 := of_decide_eq_true h
  obtain ⟨n, e1, e2, e3⟩ := i3x x (by omega)
  exact ⟨n, e1, by omega, by omega, e2⟩
theorem c_in (p lo hi : Int32) (m : gM) : fX5_isWithin p lo hi m = some (m, bI (wi p lo.toInt hi.toInt)) := by
  unfold fX5_isWithin wi
  simp only [Int32.lt_iff_toInt_lt]
  by_cases h1 : p.toInt < lo.toInt
  · rw [if_pos h1, decide_eq_false (by omega)]
    rfl
  · rw [if_neg h1]
    by_cases h2 : hi.toInt < p.toInt
    · rw [if_pos h2, decide_eq_false (by omega)]
      rfl
    · rw [if_neg h2, decide_eq_true (by omega)]
      rfl
/-- the sum of f 0 .. f (n - 1) -/
def sm (f : Nat → Nat) : Nat → Nat
  | 0 => 0
  | n + 1 => sm f n + f n
theorem sm_congr {f g : Nat → Nat} : ∀ {n : Nat}, (∀ i, i < n → f i = g i) → sm f n = sm g n
  | 0, _ => rfl
  | n + 1, h => by
    show sm f n + f n = sm g n + g n
    rw [sm_congr (fun i hi => h i (by omega)), h n (by omega)]
theorem sm_le {f : Nat → Nat} {b : Nat} : ∀ {n : Nat}, (∀ i, i < n → f i ≤ b) → sm f n ≤ n * b
  | 0, _ => Nat.zero_le _
  | n + 1, h => by
    have h1 := sm_le (n := n) (fun i hi => h i (by omega))
    have h2 := h n (by omega)
    show sm f n + f n ≤ (n + 1) * b
    rw [Nat.succ_mul]
    omega
theorem sm_at {f : Nat → Nat} {n c v : Nat} (hc : c < n) : sm (fun i => if i = c then v else f i) n + f c = sm f n + v := by
  induction n with
  | zero => omega
  | succ n ih =>
    show sm _ n + (if n = c then v else f n) + f c = sm f n + f n + v
    by_cases h : n = c
    · subst h
      rw [if_pos rfl, sm_congr (g := f) (fun i hi => if_neg (by omega))]
      omega
    · rw [if_neg h]
      have := ih (by omega)
      omega
theorem iLe {α : Type} {x y : α} {a b : Nat} (ha : a < 2147483648) (hb : b < 2147483648) : (if i3 a ≤ i3 b then x else y) = (if a ≤ b then x else y) := by simp only [i3le ha hb]
theorem iLt {α : Type} {x y : α} {a b : Nat} (ha : a < 2147483648) (hb : b < 2147483648) : (if i3 a < i3 b then x else y) = (if a < b then x else y) := by simp only [i3lt ha hb]
theorem iEq {α : Type} {x y : α} {a b : Nat} (ha : a < 2147483648) (hb : b < 2147483648) : (if i3 a = i3 b then x else y) = (if a = b then x else y) := by simp only [i3e ha hb]
theorem iB0 {α : Type} {x y : α} (b : Bool) : (if bI b = 0 then x else y) = (if b = true then y else x) := by cases b <;> rfl
theorem iB0' {α : Type} {x y : α} (b : Bool) : (if bI b = i3 0 then x else y) = (if b = true then y else x) := by cases b <;> rfl
theorem i3sle {a b : Nat} (ha : a < 1000000000) (hb : b < 1000000000) : (i3 a - i3 b ≤ 0) = (a ≤ b) := by
  apply propext
  rw [Int32.le_iff_toInt_le, Int32.toInt_sub, i3t (by omega), i3t (by omega), Int.bmod_eq_of_le (by omega) (by omega)]
  have h0 : (0 : Int32).toInt = 0 := by decide
  rw [h0]
  omega
theorem iSle {α : Type} {x y : α} {a b : Nat} (ha : a < 1000000000) (hb : b < 1000000000) : (if i3 a - i3 b ≤ 0 then x else y) = (if a ≤ b then x else y) := by simp only [i3sle ha hb]
theorem i3an {a b : Nat} (h : b ≤ a) : i3 a + -(i3 b) = i3 (a - b) := by rw [← i3s h, Int32.sub_eq_add_neg]
theorem imin {a b : Nat} (ha : a < 2147483648) (hb : b < 2147483648) : (if i3 a ≤ i3 b then i3 a else i3 b) = i3 (min b a) := by
  rw [iLe ha hb]
  split
  · rw [Nat.min_eq_right (by omega)]
  · rw [Nat.min_eq_left (by omega)]
