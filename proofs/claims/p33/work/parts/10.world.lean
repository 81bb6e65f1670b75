/-! the world: every object of the law's two systems stands at a flat address; whole numbers in one memory, references in a fixed one -/
abbrev gX : Type := va_G × (Nat → ClassId) × (Nat → Nat) × Nat
abbrev gU : Type := Nat × (Nat → Nat) × (Nat → Int64)
abbrev gM : Type := Nat → Int32
abbrev gY : Type := gX × gU × Nat × Program × Launch × Env × Room × State × MethodId × Array Value × List Frame × Method × Code × Nat × Nat × (State → Prop)
def gBk (b : Nat) : List (Nat × Nat × Nat) := [(b, 0, 0), (b + 11, 10, 10), (b + 21, 8, 28), (b + 49, 7, 4), (b + 53, 7, 5), (b + 58, 7, 10)] ++ (List.range 10).flatMap (fun c => [(b + 68 + 24 * c, 1, 0), (b + 79 + 24 * c, 7, 7), (b + 86 + 24 * c, 7, 3), (b + 89 + 24 * c, 7, 3)])
/-- the objects of a system that begins at b -/
def gSy (b : Nat) : List (Nat × Nat × Nat) := [(b, 4, 0), (b + 6, 3, 0), (b + 8, 6, 120)] ++ gBk (b + 128) ++ gBk (b + 436) ++ [(b + 744, 2, 0), (b + 747, 9, 14)] ++ (List.range 14).flatMap (fun i => gBk (b + 761 + 308 * i)) ++ [(b + 5073, 9, 2), (b + 5075, 8, 2)] ++ gBk (b + 5077) ++ gBk (b + 5385)
def gObs : List (Nat × Nat × Nat) := gSy 0 ++ gSy 5693
def gNf (kd : Nat) : Nat := match kd with | 0 => 11 | 1 => 11 | 2 => 3 | 3 => 2 | 4 => 6 | _ => 11
def gSz (o : Nat × Nat × Nat) : Nat := if o.2.1 < 6 then gNf o.2.1 else o.2.2
def gRef (kd j : Nat) : Bool := match kd with | 0 => decide (6 ≤ j) | 1 => decide (8 ≤ j) | 2 => decide (j = 0) | 3 => decide (j = 0) | 4 => true | _ => false
/-- the references of a book that stands at d places ahead -/
def gTb (x d : Nat) : Nat := if d = 6 then x + 6 else if d = 7 then x + 15 else if d = 8 then x + 42 else if d = 9 then x + 45 else if d = 10 then x + 49 else if d < 21 then x + 23 * d - 184 - 11 else if (d - 68) % 24 = 8 then x + 4 else if (d - 68) % 24 = 9 then x + 10 else x + 12
def gTaS (x : Nat) : Nat := if x < 128 then (if x = 0 then 7 else if x = 1 then 129 else if x = 2 then 437 else if x = 3 then 745 else if x = 4 then 5074 else if x = 5 then 5076 else 9) else if x < 744 then gTb x ((x - 128) % 308) else if x < 761 then (if x = 744 then 748 else 762 + 308 * (x - 747)) else if x < 5073 then gTb x ((x - 761) % 308) else if x < 5077 then (if x = 5073 then 5078 else 5386) else gTb x ((x - 5077) % 308)
def gTau (x : Nat) : Nat := if x < 5693 then gTaS x else gTaS (x - 5693) + 5693
def gRn (G : gX) (t : Nat) : Option Nat := if t = 0 then none else some (G.2.2.1 (t - 1))
def gFld (G : gX) (u : gU) (σ : gM) (kd a j : Nat) : Value := if gRef kd j = true then va_rf (gRn G (u.2.1 (a + j))) else .int (σ (a + j))
def gCell (G : gX) (u : gU) (σ : gM) (o : Nat × Nat × Nat) : va_E :=
  if o.2.1 < 6 then .inr (o.2.1, (List.range (gNf o.2.1)).map (gFld G u σ o.2.1 o.1))
  else if o.2.1 < 9 then .inl (G.2.1 o.2.1, o.2.2, .inl (fun j => if j < o.2.2 then σ (o.1 + j) else 0))
  else if o.2.1 < 11 then .inl (G.2.1 o.2.1, o.2.2, .inr (.inr (.inr (.inr (fun j => if j < o.2.2 then gRn G (u.2.1 (o.1 + j)) else none)))))
  else .inl (G.2.1 o.2.1, o.2.2, .inr (.inl (fun j => if j < o.2.2 then u.2.2 (o.1 + j) else 0)))
def gWs (G : gX) (u : gU) (σ : gM) : va_W := (gObs.take u.1).map (fun o => (G.2.2.1 o.1, gCell G u σ o))
def gTys (G : gX) : List (ClassId × FieldType) := [(G.2.1 6, .char), (G.2.1 7, .int), (G.2.1 8, .boolean), (G.2.1 9, .object "LoafRounds$Book"), (G.2.1 10, .object "LoafRounds$Customer")]
def gTi (kd : Nat) : FieldType := match kd with | 6 => .char | 7 => .int | 8 => .boolean | 9 => .object "LoafRounds$Book" | _ => .object "LoafRounds$Customer"
abbrev gA (G : gX) : Nat → Prop := fun q => G.2.2.2 ≤ q
def gNest (w : Cond) : Bool := match w with | .fieldLinkNest _ _ _ _ _ _ => true | .methodLinkNest _ _ _ _ => true | .declares _ => true | .castable _ _ => true | _ => false
def gG : List Cond := lw_tbl.filter goodWord
def gN : List Cond := lw_tbl.filter gNest
/-- the numbers that stand in tables -/
def gFirst : Nat → Int32 := fun j => match j with | 0 => 30 | 1 => 1 | 2 => 2 | 3 => 10 | _ => 3
def gLeast : Nat → Int32 := fun j => match j with | 4 => 1 | _ => 0
def gGreat : Nat → Int32 := fun j => match j with | 0 => 99 | 1 => 9 | 2 => 9 | 3 => 30 | _ => 20
def gTx : List String := ["39999999", "969", "99999", "36+", "33", "499", "6d", ""]
def gTk : List Nat := [19, 21, 23, 25, 27, 29, 31, 33]
def gTlen : List Nat := [8, 3, 5, 3, 2, 3, 2, 0]
def gTbyt : List (List Int32) := [[51, 57, 57, 57, 57, 57, 57, 57], [57, 54, 57], [57, 57, 57, 57, 57], [51, 54, 43], [51, 51], [52, 57, 57], [54, 100], []]
def gMx : List String := ["no such customer, street, weekday, place, holiday or slot", "an argument is out of its range", "not possible as things stand"]
def gMk : List Nat := [239, 246, 251]
def gEx : List String := ["java/lang/IndexOutOfBoundsException", "java/lang/IllegalArgumentException", "java/lang/IllegalStateException"]
def gKS (G : gX) (U : State) : Prop := va_K G.1 vwCl (gTys G) U ∧ (∀ w ∈ gN, va_Nw w U) ∧ (∀ i, i < 8 → vk_R "LoafRounds$Text" (gTk.getD i 0) (gTx.getD i "") (G.2.2.1 (20030 + i)) U) ∧ (∀ i, i < 3 → ∃ a, vk_R "LoafRounds" (gMk.getD i 0) (gMx.getD i "") a U) ∧ ∀ i j, i < 3 → j < 3 → i ≠ j → va_Nc (gEx.getD i "") (gEx.getD j "") U
/-- the law's script: its ints stand in the table of addresses -/
def gXs (G : gX) (j : Nat) : Int32 := Int32.ofBitVec (BitVec.ofNat 32 (G.2.2.1 (40000 + j)))
def gScG (G : gX) (U : State) (H : Heap) : Prop := va_X (G.2.2.1 30000) (G.2.2.1 30001) (gXs G) U H ∧ G.2.2.1 30000 < G.2.2.2 ∧ G.2.2.1 30000 < H.size
def gSt (G : gX) (U : State) (H : Heap) : Prop :=
  va_En "LoafRounds$Refusal" "LLoafRounds$Refusal;" ["NOTHING", "NO_PLACE", "NO_ARGUMENT", "NO_ROOM"] [] (fun i => G.2.2.1 (20000 + i)) (gA G) U H ∧
  (va_Z "LoafRounds" "FIRST_SETTING" "[I" (.ref (G.2.2.1 20010)) (gA G) U H ∧ va_T .int (G.2.2.1 20010) 5 (fun j => .int (gFirst j)) (gA G) U H) ∧
  (va_Z "LoafRounds" "LEAST_SETTING" "[I" (.ref (G.2.2.1 20011)) (gA G) U H ∧ va_T .int (G.2.2.1 20011) 5 (fun j => .int (gLeast j)) (gA G) U H) ∧
  (va_Z "LoafRounds" "GREATEST_SETTING" "[I" (.ref (G.2.2.1 20012)) (gA G) U H ∧ va_T .int (G.2.2.1 20012) 5 (fun j => .int (gGreat j)) (gA G) U H) ∧
  vk_S 8 gTlen gTbyt (fun i => G.2.2.1 (20030 + i)) (fun i => G.2.2.1 (20040 + i)) (gA G) U H ∧
  va_Z "java/lang/String" "COMPACT_STRINGS" "Z" (.int 1) (gA G) U H ∧
  (va_Z "jdk/internal/util/Preconditions" "SIOOBE_FORMATTER" "Ljava/util/function/BiFunction;" .null (gA G) U H ∨ va_Z "jdk/internal/util/Preconditions" "SIOOBE_FORMATTER" "Ljava/util/function/BiFunction;" (.ref (G.2.2.1 20050)) (gA G) U H) ∧
  vx_Zq Bundle.tN "UNASSIGNED_STACK" Bundle.steD (gA G) U H ∧ vx_Zq Bundle.tN "SUPPRESSED_SENTINEL" Bundle.listD (gA G) U H ∧
  gScG G U H
def gWd (G : gX) (u : gU) (σ : gM) (U : State) (H : Heap) : Prop := va_P G.1 vwCl (gWs G u σ) H ∧ va_D (gA G) (gWs G u σ) ∧ gKS G U ∧ gSt G U H ∧ G.2.2.2 ≤ H.size
def gV (G : gX) (v : Value) : Value := match v with | .ref a => .ref (G.2.2.1 a) | v => v
def gPr (G : gX) : Nat → List (Option Value) → List (Nat × Value)
  | _, [] => []
  | i, none :: t => gPr G (i + 1) t
  | i, some v :: t => (i, gV G v) :: gPr G (i + 1) t
def gFx (Y : gY) (cc : ByteArray) (own : String) : Prop := match Y with
  | (G, _, nL, p, _, _, R, s, m, args, _, _, c, cells, slots, _) => p.tables.exec = Jvm.exec ∧ c.code = cc ∧ c.maxLocals = nL ∧ s.vm.findClass own = some m.cls ∧ (∀ w ∈ gG, w.before args s = true) ∧ G.2.2.2 ≤ s.heap.size ∧ cells ≤ R.cells ∧ slots ≤ R.slots
/-- the method's frame, in the flat world -/
def AW (Y : gY) (cc : ByteArray) (own : String) (pc : Nat) (ls : List (Option Value)) (st : List Value) (σ : gM) : Prop := match Y with
  | (G, u, nL, p, l, e, R, s, m, args, below, meth, c, cells, slots, Q) => gFx Y cc own → ∀ (H : Heap) (locs : List Loc) (la : Array Slot), gWd G u σ s H → va_S (gA G) s.heap H locs → lv_has la nL (gPr G 0 ls) → W p l e R s m args below meth c H locs cells slots Q (F0 m pc la (st.map (gV G)))
def gIn (u : gU) (a kd len : Nat) : Prop := (a, kd, len) ∈ gObs.take u.1
def gUf (Y : gY) : gU := Y.2.1
def gRd {β : Type} (σ : gM) (a n : Nat) (i : Int32) (k : Int32 → Option β) : Option β := if i < 0 ∨ n ≤ i.toNatClampNeg then none else k (σ (a + i.toNatClampNeg))
def gWr {β : Type} (σ : gM) (a n : Nat) (i x : Int32) (k : gM → Option β) : Option β := if i < 0 ∨ n ≤ i.toNatClampNeg then none else k (upd σ (a + i.toNatClampNeg) x)
def gEl {β : Type} (n : Nat) (i : Int32) (k : Nat → Option β) : Option β := if i < 0 ∨ n ≤ i.toNatClampNeg then none else k i.toNatClampNeg
def gLt {α β : Type} (a : α) (k : α → Option β) : Option β := k a
def gDz {β : Type} (y : Int32) (k : Option β) : Option β := if y = 0 then none else k
def gDl {β : Type} (y : Int64) (k : Option β) : Option β := if y = 0 then none else k
def gRz {β : Type} (ty : FieldType) (x : Int32) (k : Option β) : Option β := if vp_nar ty x = x then k else none
def gW2 (x : Option Value) : Option Value := match x with | some (.long _) => none | some (.double _) => none | y => y
def gSet : Nat → Option Value → List (Option Value) → List (Option Value)
  | _, _, [] => []
  | 0, v, _ :: t => v :: t
  | 1, v, x :: t => gW2 x :: gSet 0 v t
  | n + 2, v, x :: t => x :: gSet (n + 1) v t
def gSet2 : Nat → Option Value → List (Option Value) → List (Option Value)
  | _, _, [] => []
  | 0, v, _ :: t => v :: (match t with | [] => [] | _ :: t' => none :: t')
  | 1, v, x :: t => gW2 x :: gSet2 0 v t
  | n + 2, v, x :: t => x :: gSet2 (n + 1) v t
def gMask : List Bool → List (Option Value) → List (Option Value)
  | true :: b, x :: t => x :: gMask b t
  | false :: b, _ :: t => none :: gMask b t
  | _, _ => []
