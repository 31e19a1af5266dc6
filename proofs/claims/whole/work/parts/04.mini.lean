/-! ===== the mini level: numbers are Int, the world is one memory of 63 cells ===== -/
abbrev MV : Type := Int ⊕ Int ⊕ Option Nat
abbrev vi (a : Int) : MV := .inl a
abbrev vl (a : Int) : MV := .inr (.inl a)
abbrev vr (k : Nat) : MV := .inr (.inr (some k))
abbrev vn : MV := .inr (.inr none)
abbrev Mem : Type := Nat → Int → Int
def RI (a : Int) : Prop := -2147483648 ≤ a ∧ a < 2147483648
def RL64 (a : Int) : Prop := -9223372036854775808 ≤ a ∧ a < 9223372036854775808
abbrev I3 (a : Int) : Int32 := Int32.ofInt a
abbrev I6 (a : Int) : Int64 := Int64.ofInt a
def wr (a : Int) : Int := (I3 a).toInt
def wl (a : Int) : Int := (I6 a).toInt
theorem I3_wr (a : Int) : I3 (wr a) = I3 a := Int32.ofInt_toInt _
theorem I6_wl (a : Int) : I6 (wl a) = I6 a := Int64.ofInt_toInt _
theorem I3_toInt (x : Int32) : I3 x.toInt = x := Int32.ofInt_toInt x
theorem I6_toInt (x : Int64) : I6 x.toInt = x := Int64.ofInt_toInt x
theorem RI_toInt (x : Int32) : RI x.toInt := ⟨Int32.le_toInt x, Int32.toInt_lt x⟩
theorem RL_toInt (x : Int64) : RL64 x.toInt := ⟨Int64.le_toInt x, Int64.toInt_lt x⟩
theorem RI_wr (a : Int) : RI (wr a) := RI_toInt _
theorem RL_wl (a : Int) : RL64 (wl a) := RL_toInt _
theorem wr_id {a : Int} (h : RI a) : wr a = a := by
  unfold wr
  exact Int32.toInt_ofInt_of_le h.1 h.2
theorem wl_id {a : Int} (h : RL64 a) : wl a = a := by
  unfold wl
  exact Int64.toInt_ofInt_of_le h.1 h.2
theorem toInt_I3 {a : Int} (h : RI a) : (I3 a).toInt = a := wr_id h
theorem toInt_I6 {a : Int} (h : RL64 a) : (I6 a).toInt = a := wl_id h
theorem I3_inj {a b : Int} (ha : RI a) (hb : RI b) : I3 a = I3 b ↔ a = b := by
  rw [← Int32.toInt_inj, toInt_I3 ha, toInt_I3 hb]
theorem I3_lt {a b : Int} (ha : RI a) (hb : RI b) : I3 a < I3 b ↔ a < b := by
  rw [Int32.lt_iff_toInt_lt, toInt_I3 ha, toInt_I3 hb]
theorem I3_le {a b : Int} (ha : RI a) (hb : RI b) : I3 a ≤ I3 b ↔ a ≤ b := by
  rw [Int32.le_iff_toInt_le, toInt_I3 ha, toInt_I3 hb]
theorem RI_0 : RI 0 := ⟨by decide, by decide⟩
theorem z_eq {a : Int} (h : RI a) : I3 a = 0 ↔ a = 0 := I3_inj (b := 0) h RI_0
theorem z_lt {a : Int} (h : RI a) : I3 a < 0 ↔ a < 0 := I3_lt (b := 0) h RI_0
theorem z_le {a : Int} (h : RI a) : I3 a ≤ 0 ↔ a ≤ 0 := I3_le (b := 0) h RI_0
theorem z_gt {a : Int} (h : RI a) : 0 < I3 a ↔ 0 < a := I3_lt (a := 0) RI_0 h
theorem z_ge {a : Int} (h : RI a) : 0 ≤ I3 a ↔ 0 ≤ a := I3_le (a := 0) RI_0 h
theorem I6_lt {a b : Int} (ha : RL64 a) (hb : RL64 b) : I6 a < I6 b ↔ a < b := by
  rw [Int64.lt_iff_toInt_lt, toInt_I6 ha, toInt_I6 hb]
theorem I6_inj {a b : Int} (ha : RL64 a) (hb : RL64 b) : I6 a = I6 b ↔ a = b := by
  rw [← Int64.toInt_inj, toInt_I6 ha, toInt_I6 hb]
theorem I3_clamp {a : Int} (h0 : 0 ≤ a) (h : RI a) : (I3 a).toNatClampNeg = a.toNat := by
  rw [← Int32.toNat_toInt, toInt_I3 h]
def band (a b : Int) : Int := (I3 a &&& I3 b).toInt
def bor (a b : Int) : Int := (I3 a ||| I3 b).toInt
def bxor (a b : Int) : Int := (I3 a ^^^ I3 b).toInt
def bshl (a b : Int) : Int := (I3 a <<< (I3 b &&& 31)).toInt
def bshr (a b : Int) : Int := (I3 a >>> (I3 b &&& 31)).toInt
def qdiv (a b : Int) : Int := (I3 a / I3 b).toInt
def qrem (a b : Int) : Int := (I3 a - I3 a / I3 b * I3 b).toInt
def land64 (a b : Int) : Int := (I6 a &&& I6 b).toInt
def lor64 (a b : Int) : Int := (I6 a ||| I6 b).toInt
def lshl64 (a b : Int) : Int := (I6 a <<< ((I3 b).toInt64 &&& 63)).toInt
def lshr64 (a b : Int) : Int := (I6 a >>> ((I3 b).toInt64 &&& 63)).toInt
def lushr64 (a b : Int) : Int := ((I6 a).toUInt64 >>> ((I3 b).toInt64.toUInt64 &&& Int64.toUInt64 63)).toInt64.toInt
def lrem64 (a b : Int) : Int := (I6 a - I6 a / I6 b * I6 b).toInt
def lcmp64 (a b : Int) : Int := if a < b then -1 else if a = b then 0 else 1
def tv (ad : Nat → Nat) : MV → Value
  | .inl a => .int (I3 a)
  | .inr (.inl a) => .long (I6 a)
  | .inr (.inr none) => .null
  | .inr (.inr (some k)) => .ref (ad k)
def okv : MV → Prop
  | .inl a => RI a
  | .inr (.inl a) => RL64 a
  | .inr (.inr _) => True
/-- a memory with one number changed -/
def up (h : Mem) (i : Nat) (k a : Int) : Mem := fun j x => if j = i ∧ x = k then a else h j x
theorem up_eq (h : Mem) (i : Nat) (k a : Int) : up h i k a i k = a := by simp [up]
theorem up_c (h : Mem) {i j : Nat} (k x a : Int) (n : j ≠ i) : up h i k a j x = h j x := by simp [up, n]
theorem up_k (h : Mem) (i j : Nat) {k x : Int} (a : Int) (n : x ≠ k) : up h i k a j x = h j x := by simp [up, n]
/-- part of a row copied -/
def cp (h : Mem) (i : Nat) (a : Int) (j : Nat) (b n : Int) : Mem := fun c x => if c = j ∧ b ≤ x ∧ x < b + n then h i (a + (x - b)) else h c x
/-- a field: a cell (.inl), or a number (0 int, 1 long, 2 boolean) -/
abbrev FK : Type := Nat ⊕ Nat
/-- a cell: an object (class, fields), or an array (length, of booleans) -/
abbrev KD : Type := (Nat × List FK) ⊕ (Nat × Bool)
def townK (t : Nat) : List FK := [.inl (t + 1), .inl (t + 2), .inl (t + 3), .inl (t + 4), .inr 0, .inr 0, .inr 0, .inr 2]
def kd : List KD := [
  .inl (8, [.inl 1, .inl 3, .inl 7, .inl 12, .inl 17, .inl 23, .inl 29, .inl 33, .inl 37, .inl 41, .inl 44, .inr 0, .inr 1]),
  .inl (5, [.inl 2, .inr 0]), .inr (48, false),
  .inl (4, [.inl 4, .inl 5, .inl 6, .inr 0]), .inr (4, false), .inr (4, false), .inr (4, false),
  .inl (6, townK 7), .inr (5, false), .inr (5, false), .inr (5, false), .inr (4, false),
  .inl (6, townK 12), .inr (5, false), .inr (5, false), .inr (5, false), .inr (4, false),
  .inl (3, [.inl 18, .inr 2]), .inl (6, townK 18), .inr (5, false), .inr (5, false), .inr (5, false), .inr (4, false),
  .inl (3, [.inl 24, .inr 2]), .inl (6, townK 24), .inr (5, false), .inr (5, false), .inr (5, false), .inr (4, false),
  .inl (2, [.inl 30, .inl 31, .inl 32]), .inr (5, false), .inr (5, false), .inr (10, false),
  .inl (0, [.inl 34, .inl 35, .inl 36, .inr 0]), .inr (14, false), .inr (14, false), .inr (14, false),
  .inl (7, [.inl 38, .inl 39, .inl 40, .inr 0]), .inr (6, false), .inr (6, false), .inr (6, true),
  .inl (1, [.inl 42, .inl 43]), .inr (100, false), .inr (100, false),
  .inr (32, false),
  .inl (9, [.inr 0, .inl 46, .inr 0, .inr 0, .inr 0, .inr 0, .inr 0, .inl 47, .inl 48, .inl 49, .inl 50, .inr 0, .inr 0, .inr 0, .inl 51, .inl 52, .inl 53, .inl 54, .inl 55, .inr 0, .inl 56, .inl 57, .inr 0, .inl 58, .inl 59, .inl 60, .inr 1, .inl 61, .inl 62, .inr 0, .inr 0, .inr 0, .inr 0, .inr 0, .inr 0, .inr 0, .inr 0]),
  .inr (48, false), .inr (5, false), .inr (4, false), .inr (4, false), .inr (4, false), .inr (20, false), .inr (12, false), .inr (17, false), .inr (17, false), .inr (238, false),
  .inr (34, false), .inr (2, true), .inr (6, false), .inr (6, false), .inr (6, true), .inr (32, false), .inr (40, true)]
def fv1 (ad : Nat → Nat) (a : Int) : FK → Value
  | .inl j => .ref (ad j)
  | .inr 1 => .long (I6 a)
  | .inr _ => .int (I3 a)
def fvs (ad : Nat → Nat) (g : Int → Int) : Nat → List FK → List Value
  | _, [] => []
  | k, f :: r => fv1 ad (g k) f :: fvs ad g (k + 1) r
def wce (cI cB : ClassId) (ad : Nat → Nat) (g : Int → Int) : KD → va_E
  | .inl (ci, fl) => .inr (ci, fvs ad g 0 fl)
  | .inr (n, b) => .inl (if b then cB else cI, n, .inl (fun j => I3 (g j)))
def wld (cI cB : ClassId) (ad : Nat → Nat) (h : Mem) : Nat → List KD → va_W
  | _, [] => []
  | i, q :: r => (ad i, wce cI cB ad (h i) q) :: wld cI cB ad h (i + 1) r
def wW (cI cB : ClassId) (ad : Nat → Nat) (h : Mem) : va_W := wld cI cB ad h 0 kd
theorem fvs_get {ad : Nat → Nat} {g : Int → Int} : ∀ {l : List FK} {k i : Nat} {f : FK}, l[i]? = some f → (fvs ad g k l)[i]? = some (fv1 ad (g ((k + i : Nat) : Int)) f)
  | [], k, i, f, h => by simp at h
  | q :: r, k, 0, f, h => by
    simp at h; subst h; simp [fvs]
  | q :: r, k, i + 1, f, h => by
    have h' : r[i]? = some f := by simpa using h
    have e := fvs_get (ad := ad) (g := g) (k := k + 1) h'
    show (fvs ad g (k + 1) r)[i]? = _
    rw [e, show k + 1 + i = k + (i + 1) by omega]
theorem fvs_len {ad : Nat → Nat} {g : Int → Int} : ∀ {l : List FK} {k : Nat}, (fvs ad g k l).length = l.length
  | [], _ => rfl
  | _ :: r, k => by show (fvs ad g (k + 1) r).length + 1 = r.length + 1; rw [fvs_len]
theorem fvs_cong {ad : Nat → Nat} {g g' : Int → Int} : ∀ {l : List FK} {k : Nat}, (∀ j : Nat, k ≤ j → g j = g' j) → fvs ad g k l = fvs ad g' k l
  | [], _, _ => rfl
  | f :: r, k, h => by
    show _ :: _ = _ :: _
    rw [h k (Nat.le_refl k), fvs_cong (fun j hj => h j (by omega))]
theorem fvs_set {ad : Nat → Nat} {g : Int → Int} {a : Int} : ∀ {l : List FK} {k i : Nat} {f : FK}, l[i]? = some f → (fvs ad g k l).set i (fv1 ad a f) = fvs ad (fun x => if x = ((k + i : Nat) : Int) then a else g x) k l
  | [], k, i, f, h => by simp at h
  | q :: r, k, 0, f, h => by
    simp at h; subst h
    show _ :: _ = _ :: _
    congr 1
    · simp
    · exact fvs_cong (fun j hj => by rw [if_neg (by omega)])
  | q :: r, k, i + 1, f, h => by
    have h' : r[i]? = some f := by simpa using h
    show _ :: _ = _ :: _
    congr 1
    · dsimp only; rw [if_neg (by omega)]
    · show (fvs ad g (k + 1) r).set i _ = _
      rw [fvs_set h']
      refine fvs_cong (fun j _ => ?_)
      rw [show k + 1 + i = k + (i + 1) by omega]
theorem wld_get {cI cB : ClassId} {ad : Nat → Nat} {h : Mem} : ∀ {l : List KD} {i j : Nat} {q : KD}, l[j]? = some q → (wld cI cB ad h i l)[j]? = some (ad (i + j), wce cI cB ad (h (i + j)) q)
  | [], i, j, q, e => by simp at e
  | x :: r, i, 0, q, e => by
    simp at e; subst e; simp [wld]
  | x :: r, i, j + 1, q, e => by
    have e' : r[j]? = some q := by simpa using e
    show (wld cI cB ad h (i + 1) r)[j]? = _
    rw [wld_get e', show i + 1 + j = i + (j + 1) by omega]
theorem wld_cong {cI cB : ClassId} {ad : Nat → Nat} {h h' : Mem} : ∀ {l : List KD} {i : Nat}, (∀ j : Nat, i ≤ j → h j = h' j) → wld cI cB ad h i l = wld cI cB ad h' i l
  | [], _, _ => rfl
  | x :: r, i, e => by
    show _ :: _ = _ :: _
    rw [e i (Nat.le_refl i), wld_cong (fun j hj => e j (by omega))]
theorem wld_set {cI cB : ClassId} {ad : Nat → Nat} {h : Mem} {g : Int → Int} : ∀ {l : List KD} {i j : Nat} {q : KD}, l[j]? = some q → (wld cI cB ad h i l).set j (ad (i + j), wce cI cB ad g q) = wld cI cB ad (fun c => if c = i + j then g else h c) i l
  | [], i, j, q, e => by simp at e
  | x :: r, i, 0, q, e => by
    simp at e; subst e
    show _ :: _ = _ :: _
    congr 1
    · simp
    · exact wld_cong (fun j hj => by rw [if_neg (by omega)])
  | x :: r, i, j + 1, q, e => by
    have e' : r[j]? = some q := by simpa using e
    show _ :: _ = _ :: _
    congr 1
    · dsimp only; rw [if_neg (by omega)]
    · show (wld cI cB ad h (i + 1) r).set j _ = _
      rw [show i + (j + 1) = i + 1 + j by omega, wld_set e']
theorem wW_get {cI cB : ClassId} {ad : Nat → Nat} {h : Mem} {i : Nat} {q : KD} (e : kd[i]? = some q) : (wW cI cB ad h)[i]? = some (ad i, wce cI cB ad (h i) q) := by
  have := wld_get (cI := cI) (cB := cB) (ad := ad) (h := h) (i := 0) e
  rw [Nat.zero_add] at this
  exact this
theorem wW_set {cI cB : ClassId} {ad : Nat → Nat} {h : Mem} {i : Nat} {q : KD} {g : Int → Int} (e : kd[i]? = some q) : (wW cI cB ad h).set i (ad i, wce cI cB ad g q) = wW cI cB ad (fun c => if c = i then g else h c) := by
  have := wld_set (cI := cI) (cB := cB) (ad := ad) (h := h) (g := g) (i := 0) e
  simp only [Nat.zero_add] at this
  exact this
theorem up_fun (h : Mem) (i : Nat) (k a : Int) : up h i k a = fun c => if c = i then (fun x => if x = k then a else h i x) else h c := by
  funext c x
  by_cases hc : c = i
  · subst hc; simp [up]
  · simp [up, hc]
/-- what the numbers of a memory are by their kind -/
def tyok : Nat → Int → Prop
  | 1, a => RL64 a
  | 2, a => a = 0 ∨ a = 1
  | _, a => RI a
def fkok (a : Int) : FK → Prop
  | .inl _ => True
  | .inr t => tyok t a
def kdR (g : Int → Int) : KD → Prop
  | .inl (_, fl) => ∀ (k : Nat) (f : FK), fl[k]? = some f → fkok (g k) f
  | .inr (n, b) => ∀ k : Int, 0 ≤ k → k < n → if b then g k = 0 ∨ g k = 1 else RI (g k)
def RM (h : Mem) : Prop := ∀ (i : Nat) (q : KD), kd[i]? = some q → kdR (h i) q
theorem RI_01 {a : Int} (h : a = 0 ∨ a = 1) : RI a := by rcases h with rfl | rfl <;> exact ⟨by decide, by decide⟩
theorem RM_up {h : Mem} {i : Nat} {k a : Int} (hM : RM h) (hk : ∀ q, kd[i]? = some q → kdR (fun x => if x = k then a else h i x) q) : RM (up h i k a) := by
  intro j q hq
  rw [up_fun]
  by_cases hj : j = i
  · subst hj
    dsimp only
    rw [if_pos rfl]
    exact hk q hq
  · dsimp only
    rw [if_neg hj]
    exact hM j q hq
theorem RM_upF {h : Mem} {i : Nat} {k : Nat} {a : Int} {ci t : Nat} {fl : List FK} (hM : RM h) (hi : kd[i]? = some (.inl (ci, fl))) (hk : fl[k]? = some (.inr t)) (ha : tyok t a) : RM (up h i k a) := by
  refine RM_up hM fun q hq => ?_
  rw [hi] at hq
  cases hq
  intro j f hf
  have h0 := hM i _ hi j f hf
  by_cases hj : j = k
  · subst hj
    rw [hk] at hf
    cases hf
    simp only [if_pos]
    exact ha
  · have hne : ¬ ((j : Int) = (k : Int)) := by omega
    simp only [if_neg hne]
    exact h0
theorem RM_upA {h : Mem} {i : Nat} {k a : Int} {n : Nat} {b : Bool} (hM : RM h) (hi : kd[i]? = some (.inr (n, b))) (ha : if b then a = 0 ∨ a = 1 else RI a) : RM (up h i k a) := by
  refine RM_up hM fun q hq => ?_
  rw [hi] at hq
  cases hq
  intro j h1 h2
  have h0 := hM i _ hi j h1 h2
  by_cases hj : j = k
  · simp only [if_pos hj]; exact ha
  · simp only [if_neg hj]; exact h0
/-- a method as the mini level names it: its name, its code, its locals, what it answers, its room -/
abbrev MI : Type := MethodName × ByteArray × Nat × Option FieldType × Room
abbrev mY (M : MI) : MethodName := M.1
abbrev mC (M : MI) : ByteArray := M.2.1
abbrev mL (M : MI) : Nat := M.2.2.1
abbrev mT (M : MI) : Option FieldType := M.2.2.2.1
abbrev mR (M : MI) : Room := M.2.2.2.2
def ordF : Nat → Value := fun j => .int (match j with | 0 => 1 | 1 => 1 | 2 => 2 | 3 => 6 | 4 => 24 | _ => 120)
/-- what the machine's own tables say of one method's run -/
def Ctx (M : MI) (SX : Option (Nat × (Nat → Int32))) (p : Program) (s : State) (m : MethodId) (args : Array Value) (meth : Method) (c : Code) (dC : Nat → ClassId) (dI : Nat → Nat → Nat) (cI cB : ClassId) (ad : Nat → Nat) (A : Nat → Prop) (cells slots : Nat) : Prop :=
  p.tables.exec = Jvm.exec ∧ c.code = mC M ∧ c.maxLocals = mL M ∧ s.vm.findClass (mY M).cls = some m.cls ∧ (∀ w ∈ TB, w.before args s = true) ∧
  va_K (dC, dI) vwCl [(cI, .int), (cB, .boolean)] s ∧ va_Z "StarRight" "ORDERS" "[I" (.ref (ad 63)) A s s.heap ∧ va_T .int (ad 63) 6 ordF A s s.heap ∧
  (∀ q : Nat, s.heap.size ≤ q → A q) ∧ (cells ≤ (mR M).cells ∧ slots ≤ (mR M).slots) ∧ (∀ w ∈ NW, va_Nw w s) ∧
  (∀ L xs, SX = some (L, xs) → va_X (ad 64) L xs s s.heap ∧ ad 64 < s.heap.size ∧ ¬ A (ad 64))
/-- the world: the memory h stands in the heap -/
def Wd (s : State) (dC : Nat → ClassId) (dI : Nat → Nat → Nat) (cI cB : ClassId) (ad : Nat → Nat) (A : Nat → Prop) (h : Mem) (H : Heap) (locs : List Loc) : Prop :=
  va_P (dC, dI) vwCl (wW cI cB ad h) H ∧ va_D A (wW cI cB ad h) ∧ va_S A s.heap H locs ∧ RM h
/-- what a method answers fits its type -/
def okr (t : Option FieldType) (r : Option MV) : Prop := match t, r with
  | none, none => True
  | some .int, some (.inl a) => RI a
  | some .boolean, some (.inl a) => a = 0 ∨ a = 1
  | some .long, some (.inr (.inl a)) => RL64 a
  | some (.object _), some (.inr (.inr _)) => True
  | _, _ => False
def retI : Option MV → Instr
  | none => .return_
  | some (.inl _) => .ireturn
  | some (.inr (.inl _)) => .lreturn
  | some (.inr (.inr _)) => .areturn
/-- how the run ends: at a return with an answer and a memory that Q allows, the goal is reached -/
def Fn (M : MI) (Q : Option MV → Mem → Prop) (p : Program) (l : Launch) (e : Env) (s : State) (m : MethodId) (args : Array Value) (below : List Frame) (meth : Method) (c : Code) (dC : Nat → ClassId) (dI : Nat → Nat → Nat) (cI cB : ClassId) (ad : Nat → Nat) (A : Nat → Prop) (cells slots : Nat) (Qf : State → Prop) : Prop :=
  ∀ (r : Option MV) (h : Mem) (H : Heap) (locs : List Loc) (pc : Nat) (ls : Array Slot), Q r h → Wd s dC dI cI cB ad A h H locs → okr (mT M) r → decode (mC M) pc = .ok (retI r, 1) →
    W p l e (mR M) s m args below meth c H locs cells slots Qf (F0 m pc ls (r.toList.map (tv ad)))
def Lr (ad : Nat → Nat) (nL : Nat) (ls : List (Option MV)) (la : Array Slot) : Prop :=
  la.size = nL ∧ lv_wf la ∧ ∀ (i : Nat) (v : MV), ls[i]? = some (some v) → la[i]? = some (.val (tv ad v)) ∧ okv v
def E (M : MI) (SX : Option (Nat × (Nat → Int32))) (Q : Option MV → Mem → Prop) (pc : Nat) (ls : List (Option MV)) (st : List MV) (h : Mem) : Prop :=
  ∀ (p : Program) (l : Launch) (e : Env) (s : State) (m : MethodId) (args : Array Value) (below : List Frame) (meth : Method) (c : Code) (dC : Nat → ClassId) (dI : Nat → Nat → Nat) (cI cB : ClassId) (ad : Nat → Nat) (A : Nat → Prop) (cells slots : Nat) (Qf : State → Prop),
    Ctx M SX p s m args meth c dC dI cI cB ad A cells slots → Fn M Q p l e s m args below meth c dC dI cI cB ad A cells slots Qf →
    ∀ (H : Heap) (locs : List Loc) (la : Array Slot), Wd s dC dI cI cB ad A h H locs → Lr ad (mL M) ls la → (∀ v ∈ st, okv v) →
      W p l e (mR M) s m args below meth c H locs cells slots Qf (F0 m pc la (st.map (tv ad)))
section ER
variable {M : MI} {SX : Option (Nat × (Nat → Int32))} {Q : Option MV → Mem → Prop} {pc : Nat} {ls : List (Option MV)} {st : List MV} {h : Mem}
theorem ok_tail {v : MV} (ho : ∀ x ∈ v :: st, okv x) : ∀ x ∈ st, okv x := fun x hx => ho x (List.mem_cons_of_mem _ hx)
theorem ok_head {v : MV} (ho : ∀ x ∈ v :: st, okv x) : okv v := ho v List.mem_cons_self
theorem ok_cons {v : MV} (hv : okv v) (ho : ∀ x ∈ st, okv x) : ∀ x ∈ v :: st, okv x := fun x hx => by
  rcases List.mem_cons.mp hx with rfl | hx
  · exact hv
  · exact ho x hx
theorem e_iconst {n : Int} (hd : decode (mC M) pc = .ok (.iconst n, 1)) (hn : RI n) (k : E M SX Q (pc + 1) ls (vi n :: st) h) : E M SX Q pc ls st h := by
  intro p l e s m args below meth c dC dI cI cB ad A cells slots Qf C F H locs la w hl ho
  exact lv_iconst C.1 C.2.1 hd rfl (k p l e s m args below meth c dC dI cI cB ad A cells slots Qf C F H locs la w hl (ok_cons hn ho))
theorem e_bipush {n : Int} (hd : decode (mC M) pc = .ok (.bipush n, 2)) (hn : (Int8.ofInt n).toInt32 = I3 n ∧ RI n) (k : E M SX Q (pc + 2) ls (vi n :: st) h) : E M SX Q pc ls st h := by
  intro p l e s m args below meth c dC dI cI cB ad A cells slots Qf C F H locs la w hl ho
  exact lv_bipush C.1 C.2.1 hd hn.1 (k p l e s m args below meth c dC dI cI cB ad A cells slots Qf C F H locs la w hl (ok_cons hn.2 ho))
theorem e_sipush {n : Int} (hd : decode (mC M) pc = .ok (.sipush n, 3)) (hn : (Int16.ofInt n).toInt32 = I3 n ∧ RI n) (k : E M SX Q (pc + 3) ls (vi n :: st) h) : E M SX Q pc ls st h := by
  intro p l e s m args below meth c dC dI cI cB ad A cells slots Qf C F H locs la w hl ho
  exact lv_sipush C.1 C.2.1 hd hn.1 (k p l e s m args below meth c dC dI cI cB ad A cells slots Qf C F H locs la w hl (ok_cons hn.2 ho))
theorem e_lconst {n : Fin 2} {a : Int} (hd : decode (mC M) pc = .ok (.lconst n, 1)) (hn : Int64.ofNat (n : Nat) = I6 a ∧ RL64 a) (k : E M SX Q (pc + 1) ls (vl a :: st) h) : E M SX Q pc ls st h := by
  intro p l e s m args below meth c dC dI cI cB ad A cells slots Qf C F H locs la w hl ho
  exact lv_lconst C.1 C.2.1 hd hn.1 (k p l e s m args below meth c dC dI cI cB ad A cells slots Qf C F H locs la w hl (ok_cons hn.2 ho))
end ER
