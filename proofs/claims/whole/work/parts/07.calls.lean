/-! ===== contracts, calls, returns ===== -/
def okav (av : List MV) : Prop := ∀ v ∈ av, okv v
def cQ (M : MI) (Q : Option MV → Mem → Prop) (dC : Nat → ClassId) (dI : Nat → Nat → Nat) (cI cB : ClassId) (ad : Nat → Nat) (A : Nat → Prop) : Array Value → State → Outcome → State → Prop := fun _ st oc t =>
  (∃ (r : Option MV) (h' : Mem), oc = .returned (r.map (tv ad)) ∧ Q r h' ∧ okr (mT M) r ∧ va_P (dC, dI) vwCl (wW cI cB ad h') t.heap ∧ va_D A (wW cI cB ad h') ∧ RM h') ∧ va_F A st t
def cP (av : List MV) (h : Mem) (dC : Nat → ClassId) (dI : Nat → Nat → Nat) (cI cB : ClassId) (ad : Nat → Nat) (sz : Nat) : Array Value → State → Prop := va_Pc (av.map (tv ad)) (fun U => U.heap.size = sz ∧ va_P (dC, dI) vwCl (wW cI cB ad h) U.heap ∧ va_K (dC, dI) vwCl [(cI, .int), (cB, .boolean)] U ∧ va_D (fun _ => True) (wW cI cB ad h) ∧ RM h ∧ okav av ∧
  va_Z "StarRight" "ORDERS" "[I" (.ref (ad 63)) (va_A (wW cI cB ad h) sz) U U.heap ∧ va_T .int (ad 63) 6 ordF (va_A (wW cI cB ad h) sz) U U.heap ∧ ∀ w ∈ NW, va_Nw w U)
def mW (M : MI) : List Cond := .code (mY M) (mC M) (mL M) (mT M) :: TB
/-- a method's contract at the mini level: from memory h, with these arguments, it returns, and Q holds of answer and memory -/
def Cn (M : MI) (av : List MV) (h : Mem) (Q : Option MV → Mem → Prop) : Prop := ∀ (l : Launch) (dC : Nat → ClassId) (dI : Nat → Nat → Nat) (cI cB : ClassId) (ad : Nat → Nat) (sz : Nat),
  Met l (mY M) (mW M) (mR M) (cP av h dC dI cI cB ad sz) (cQ M Q dC dI cI cB ad (va_A (wW cI cB ad h) sz)) 0 0 (va_A (wW cI cB ad h) sz)
theorem Cn.mono {M : MI} {av : List MV} {h : Mem} {Q Q' : Option MV → Mem → Prop} (hc : Cn M av h Q) (hq : ∀ r h', Q r h' → Q' r h') : Cn M av h Q' := by
  have hsub : ∀ (dC : Nat → ClassId) (dI : Nat → Nat → Nat) (cI cB : ClassId) (ad : Nat → Nat) (A : Nat → Prop) (a : Array Value) (s : State) (o : Outcome) (t : State), cQ M Q dC dI cI cB ad A a s o t → cQ M Q' dC dI cI cB ad A a s o t := by
    intro dC dI cI cB ad A a s o t q
    obtain ⟨⟨r, h', q1, q2, q3⟩, q4⟩ := q
    exact ⟨⟨r, h', q1, hq r h' q2, q3⟩, q4⟩
  intro l dC dI cI cB ad sz
  have h1 := hc l dC dI cI cB ad sz
  unfold Met at h1 ⊢
  intro p e ha hcc hk s m args below hf happ hP hK
  obtain ⟨k, o, t1, t2, t3, t4⟩ := h1 p e ha hcc hk s m args below hf happ hP hK
  exact ⟨k, o, t1, t2, t3, hsub _ _ _ _ _ _ _ _ _ _ t4.1, t4.2⟩
theorem nw_tab : ∀ w ∈ NW, w.onTables = true := by
  intro w hw
  rcases nw_kind w hw with ⟨a, i, b, n, d, h, rfl⟩ | ⟨a, i, x, h, rfl⟩ <;> rfl
theorem nw_warm {s U : State} (hW : s.WarmedH U.vm) (h : ∀ w ∈ NW, va_Nw w s) : ∀ w ∈ NW, va_Nw w U := by
  intro w hw
  have h0 := h w hw
  rcases nw_kind w hw with ⟨a, i, b, n, d, x, rfl⟩ | ⟨a, i, x, y, rfl⟩
  · exact va_Nw.warmF hW h0
  · exact va_Nw.warmM hW h0
theorem cP_blind {av : List MV} {h : Mem} {dC : Nat → ClassId} {dI : Nat → Nat → Nat} {cI cB : ClassId} {ad : Nat → Nat} {sz : Nat} : FrameBlind (cP av h dC dI cI cB ad sz) := by
  intro a U g mk q
  obtain ⟨q0, q1, q2, q3, q4, q5, q6, q7, q8, q9⟩ := q
  exact ⟨q0, q1, q2, va_K.moved (u := U) (U := U.calling g mk a) (Vm.Alike.refl U.vm) q3, q4, q5, q6, va_Z.moved (u := U) (U := U.calling g mk a) (Vm.Alike.refl U.vm) q7, va_T.moved (u := U) (U := U.calling g mk a) (Vm.Alike.refl U.vm) q8, fun w hw => va_Nw.same (u := U) (U := U.calling g mk a) (nw_tab w hw) rfl (q9 w hw)⟩
theorem okr_ok {t : Option FieldType} {r : Option MV} (hr : okr t r) : ∀ v ∈ r.toList, okv v := by
  intro v hv
  match t, r, hr with
  | none, none, _ => simp at hv
  | some .int, some (.inl a), hr => simp at hv; subst hv; exact hr
  | some .boolean, some (.inl a), hr => simp at hv; subst hv; exact (show RI a from RI_01 hr)
  | some .long, some (.inr (.inl a)), hr => simp at hv; subst hv; exact hr
  | some (.object _), some (.inr (.inr _)), hr => simp at hv; subst hv; exact trivial
def catv : MV → Nat
  | .inr (.inl _) => 2
  | _ => 1
theorem cat_eq (ad : Nat → Nat) (v : MV) : (tv ad v).category = catv v := by
  match v with
  | .inl a => rfl
  | .inr (.inl a) => rfl
  | .inr (.inr none) => rfl
  | .inr (.inr (some k)) => rfl
theorem cat_sum (ad : Nat → Nat) (st : List MV) : ((st.map (tv ad)).map fun v => v.category).sum = (st.map catv).sum := by
  rw [List.map_map]
  congr 1
  exact List.map_congr_left (fun v _ => cat_eq ad v)
/-- what the tables must say of a method that is called on an object -/
def VLk (own : String) (idx : Nat) (M : MI) (n : Nat) : Prop := Cond.methodLink own idx (mY M) ∈ TB ∧ Cond.instanceMethod (mY M) ∈ TB ∧ Cond.selects (mY M).cls (mY M) (mY M) ∈ TB ∧ Cond.initialized (mY M).cls ∈ TB ∧ Cond.code (mY M) (mC M) (mL M) (mT M) ∈ TB ∧
  ((mY M).cls ≠ "java/lang/invoke/MethodHandle" ∧ (mY M).cls ≠ "java/lang/invoke/VarHandle" ∧ (parseMethodDescriptor (mY M).desc).map (fun d => d.parameters.length) = some n)
def SLk (own : String) (idx : Nat) (M : MI) (n : Nat) : Prop := Cond.methodLink own idx (mY M) ∈ TB ∧ Cond.static (mY M) ∈ TB ∧ Cond.initialized (mY M).cls ∈ TB ∧ Cond.code (mY M) (mC M) (mL M) (mT M) ∈ TB ∧
  ((mY M).cls ≠ "java/lang/invoke/MethodHandle" ∧ (mY M).cls ≠ "java/lang/invoke/VarHandle" ∧ (parseMethodDescriptor (mY M).desc).map (fun d => d.parameters.length) = some n)
/-- the callee's room fits -/
def rfit (M' M : MI) : Prop := (mR M').cells = 0 ∧ (mR M').slots = 0 ∧ (mR M').frames + 1 ≤ (mR M).frames ∧ 8 + (mL M' + 11) + (mR M').locals ≤ (mR M).locals
section EC
variable {M M' : MI} {SX : Option (Nat × (Nat → Int32))} {Q : Option MV → Mem → Prop} {pc : Nat} {ls : List (Option MV)} {st : List MV} {h : Mem}
theorem tb_goodIn {ws : List Cond} (hw : ∀ w ∈ ws, w ∈ TB) : GoodIn TB ws := fun w h => ⟨hw w h, tb_good w (hw w h)⟩
theorem tbA {s : State} {cI cB : ClassId} {ad : Nat → Nat} {A : Nat → Prop} {H : Heap} {locs : List Loc} (hD : va_D A (wW cI cB ad h)) (hS : va_S A s.heap H locs) (hA : ∀ q, s.heap.size ≤ q → A q) : ∀ q, va_A (wW cI cB ad h) H.size q → A q := by
  intro q hq
  rcases hq with ⟨k, e, hk⟩ | hq
  · exact hD.2 k _ hk
  · exact hA q (Nat.le_trans hS.1 hq)
theorem cP_at {s : State} {m : MethodId} {p : Program} {args : Array Value} {meth : Method} {c : Code} {dC : Nat → ClassId} {dI : Nat → Nat → Nat} {cI cB : ClassId} {ad : Nat → Nat} {A : Nat → Prop} {cells slots : Nat} {H : Heap} {locs : List Loc} {av : List MV}
    (C : Ctx M SX p s m args meth c dC dI cI cB ad A cells slots) (w : Wd s dC dI cI cB ad A h H locs) (hav : okav av) : ∀ U : State, U.heap = H → s.WarmedH U.vm → cP av h dC dI cI cB ad H.size (av.map (tv ad)).toArray U := by
  intro U hU hW
  have hf := tbA (h := h) w.2.1 w.2.2.1 C.2.2.2.2.2.2.2.2.1
  refine ⟨rfl, by rw [hU], by rw [hU]; exact w.1, va_K.moved hW.alike C.2.2.2.2.2.1, w.2.1.weaken (fun _ _ _ _ => trivial), w.2.2.2, hav, ?_, ?_, nw_warm hW C.2.2.2.2.2.2.2.2.2.2.1⟩
  · rw [hU]
    exact va_Z.moved hW.alike ((C.2.2.2.2.2.2.1.kept (fun a h1 h2 => w.2.2.1.2.1 a h1 h2)).narrow hf)
  · rw [hU]
    exact va_T.moved hW.alike ((C.2.2.2.2.2.2.2.1.kept (fun a h1 h2 => w.2.2.1.2.1 a h1 h2)).narrow hf)
/-- behind a call -/
theorem e_back {p : Program} {l : Launch} {e : Env} {s : State} {m : MethodId} {args : Array Value} {below : List Frame} {meth : Method} {c : Code} {dC : Nat → ClassId} {dI : Nat → Nat → Nat} {cI cB : ClassId} {ad : Nat → Nat} {A : Nat → Prop} {cells slots : Nat} {Qf : State → Prop} {H : Heap} {locs : List Loc} {la : Array Slot} {st0 : List Value} {r0 : Option MV} {h0 : Mem} {aa : Array Value}
    (C : Ctx M SX p s m args meth c dC dI cI cB ad A cells slots) (F : Fn M Q p l e s m args below meth c dC dI cI cB ad A cells slots Qf) (w : Wd s dC dI cI cB ad A h H locs) (hl : Lr ad (mL M) ls la) (ho : ∀ v ∈ st, okv v)
    (hr : va_Run p l e (mR M) s m args below meth c H locs cells slots 0 0 (F0 m pc la st0) (st.map (tv ad)) (cQ M' (fun r h' => r = r0 ∧ h' = h0) dC dI cI cB ad (va_A (wW cI cB ad h) H.size) aa) (va_A (wW cI cB ad h) H.size))
    (kk : E M SX Q (pc + 3) ls (r0.toList ++ st) h0) : W p l e (mR M) s m args below meth c H locs cells slots Qf (F0 m pc la st0) := by
  have hf := tbA (h := h) w.2.1 w.2.2.1 C.2.2.2.2.2.2.2.2.1
  intro T hT X
  obtain ⟨v, st₀, t, T', L, g0, X', hL, e1, e2, ⟨⟨r, h', hv, ⟨q1, q2⟩, hok, hp, hd, hm⟩, hz, hk⟩, sg⟩ := hr T hT X
  subst q1 q2
  cases hv
  rw [g0] at hz hk
  have w' : Wd s dC dI cI cB ad A h' T'.heap (locs ++ L) := by
    refine ⟨by rw [e1]; exact hp, hd.weaken (fun k q _ z => hf q.1 z), ⟨Nat.le_trans w.2.2.1.1 (by rw [e1]; exact hz), fun q h1 h2 => ?_, fun q hq => ?_⟩, hm⟩
    · rw [e1, hk q (Nat.lt_of_lt_of_le h1 w.2.2.1.1) (fun z => h2 (hf q z))]
      exact w.2.2.1.2.1 q h1 h2
    · rcases List.mem_append.mp hq with z | z
      · exact w.2.2.1.2.2 q z
      · exact hf _ (hL q z)
  have ho' : ∀ v ∈ r.toList ++ st, okv v := fun v hv => by
    rcases List.mem_append.mp hv with z | z
    · exact okr_ok hok v z
    · exact ho v z
  obtain ⟨t2, a1, b1⟩ := kk p l e s m args below meth c dC dI cI cB ad A cells slots Qf C F T'.heap (locs ++ L) la w' hl ho' T' rfl X'
  refine ⟨t2, sg t2 ?_, b1⟩
  have es : (r.toList ++ st).map (tv ad) = (r.map (tv ad)).toList ++ st.map (tv ad) := by cases r <;> simp
  rw [es] at a1
  exact a1
theorem e_callV {av : List MV} {x idx n ci N : Nat} {T : u_T} {fl : List FK} {own : String} {r0 : Option MV} {h0 : Mem} (hd : decode (mC M) pc = .ok (.invokevirtual idx, 3)) (ho' : (mY M).cls = own) (hL : VLk own idx M' n) (hn : av.length = n) (hfit : rfit M' M)
    (hc : kd[x]? = some (.inl (ci, fl))) (hci : vwCl[ci]? = some ((mY M').cls, T, N)) (hst : (st.map catv).sum ≤ 8) (hcn : Cn M' (vr x :: av) h (fun r h' => r = r0 ∧ h' = h0)) (kk : E M SX Q (pc + 3) ls (r0.toList ++ st) h0) : E M SX Q pc ls (av.reverse ++ vr x :: st) h := by
  intro p l e s m args below meth c dC dI cI cB ad A cells slots Qf C F H locs la w hl ho
  subst ho'
  obtain ⟨L1, L2, L3, L4, L5, L6⟩ := hL
  have hav : okav (vr x :: av) := fun v hv => by
    rcases List.mem_cons.mp hv with rfl | hv
    · exact trivial
    · exact ho v (List.mem_append_left _ (List.mem_reverse.mpr hv))
  have ho2 : ∀ v ∈ st, okv v := fun v hv => ho v (List.mem_append_right _ (List.mem_cons_of_mem _ hv))
  refine e_back (M' := M') (h := h) (st := st) (aa := (Value.ref (ad x) :: av.map (tv ad)).toArray) C F w hl ho2 ?_ kk
  refine va_runV (As := av.map (tv ad)) (rest := st.map (tv ad)) (C := (mY M').cls) (b := ad x) (index := idx) ⟨C.1, C.2.1, C.2.2.1, C.2.2.2.1, C.2.2.2.2.1⟩ (hcn l dC dI cI cB ad H.size)
    (cwV (ws' := TB) n C.2.2.2.2.1 (tb_goodIn (fun v hv => ?_)) rfl hfit.1 hfit.2.1 ⟨rfl, L6⟩ hfit.2.2)
    ⟨cP_blind, va_recv C.2.2.2.2.2.1 w.1 hci (wW_get hc), fun U hU hW => cP_at (av := vr x :: av) C w hav U hU hW⟩ rfl (by rw [List.length_map]; exact hn) hl.1 (by simp [tv]) ?_ hd ⟨C.2.2.2.2.2.2.2.2.2.1.1, C.2.2.2.2.2.2.2.2.2.1.2⟩
  · simp only [wsV, mW, List.mem_append, List.mem_cons, List.not_mem_nil, or_false] at hv
    rcases hv with (rfl | rfl | rfl | rfl) | rfl | hv
    · exact L1
    · exact L2
    · exact L3
    · exact L4
    · exact L5
    · exact hv
  · show 2 * 0 + _ ≤ 8
    rw [cat_sum]
    omega
theorem e_callS {av : List MV} {idx n : Nat} {own : String} {r0 : Option MV} {h0 : Mem} (hd : decode (mC M) pc = .ok (.invokestatic idx, 3)) (ho' : (mY M).cls = own) (hL : SLk own idx M' n) (hn : av.length = n) (hfit : rfit M' M)
    (hst : (st.map catv).sum ≤ 8) (hcn : Cn M' av h (fun r h' => r = r0 ∧ h' = h0)) (kk : E M SX Q (pc + 3) ls (r0.toList ++ st) h0) : E M SX Q pc ls (av.reverse ++ st) h := by
  intro p l e s m args below meth c dC dI cI cB ad A cells slots Qf C F H locs la w hl ho
  subst ho'
  obtain ⟨L1, L2, L4, L5, L6⟩ := hL
  have hav : okav av := fun v hv => ho v (List.mem_append_left _ (List.mem_reverse.mpr hv))
  have ho2 : ∀ v ∈ st, okv v := fun v hv => ho v (List.mem_append_right _ hv)
  refine e_back (M' := M') (h := h) (st := st) (aa := (av.map (tv ad)).toArray) C F w hl ho2 ?_ kk
  refine va_runS (As := av.map (tv ad)) (rest := st.map (tv ad)) (index := idx) ⟨C.1, C.2.1, C.2.2.1, C.2.2.2.1, C.2.2.2.2.1⟩ (hcn l dC dI cI cB ad H.size)
    (va_cwS (ws' := TB) n C.2.2.2.2.1 (tb_goodIn (fun v hv => ?_)) rfl hfit.1 hfit.2.1 L6 hfit.2.2)
    ⟨cP_blind, fun U hU hW => cP_at (av := av) C w hav U hU hW⟩ rfl (by rw [List.length_map]; exact hn) hl.1 (by simp) ?_ hd ⟨C.2.2.2.2.2.2.2.2.2.1.1, C.2.2.2.2.2.2.2.2.2.1.2⟩
  · simp only [va_wsS, mW, List.mem_append, List.mem_cons, List.not_mem_nil, or_false] at hv
    rcases hv with (rfl | rfl | rfl) | rfl | hv
    · exact L1
    · exact L2
    · exact L4
    · exact L5
    · exact hv
  · show 2 * 0 + _ ≤ 8
    rw [cat_sum]
    omega
/-- a return -/
theorem e_ret {r : Option MV} (hd : decode (mC M) pc = .ok (retI r, 1)) (hok : (∀ v ∈ r.toList, okv v) → okr (mT M) r) (hq : Q r h) : E M SX Q pc ls r.toList h := by
  intro p l e s m args below meth c dC dI cI cB ad A cells slots Qf C F H locs la w hl ho
  exact F r h H locs pc la hq w (hok ho) hd
theorem e_ireturn {a : Int} (hd : decode (mC M) pc = .ok (.ireturn, 1)) (ht : mT M = some .int) (hq : Q (some (vi a)) h) : E M SX Q pc ls [vi a] h :=
  e_ret (r := some (vi a)) hd (fun ho => by rw [ht]; exact ho (vi a) (by simp)) hq
theorem e_zreturn {a : Int} (hd : decode (mC M) pc = .ok (.ireturn, 1)) (ht : mT M = some .boolean) (ha : a = 0 ∨ a = 1) (hq : Q (some (vi a)) h) : E M SX Q pc ls [vi a] h :=
  e_ret (r := some (vi a)) hd (fun _ => by rw [ht]; exact ha) hq
theorem e_lreturn {a : Int} (hd : decode (mC M) pc = .ok (.lreturn, 1)) (ht : mT M = some .long) (hq : Q (some (vl a)) h) : E M SX Q pc ls [vl a] h :=
  e_ret (r := some (vl a)) hd (fun ho => by rw [ht]; exact ho (vl a) (by simp)) hq
theorem e_return (hd : decode (mC M) pc = .ok (.return_, 1)) (ht : mT M = none) (hq : Q none h) : E M SX Q pc ls [] h :=
  e_ret (r := none) hd (fun _ => by rw [ht]; exact trivial) hq
theorem e_areturn {x : Nat} {nm : String} (hd : decode (mC M) pc = .ok (.areturn, 1)) (ht : mT M = some (.object nm)) (hq : Q (some (vr x)) h) : E M SX Q pc ls [vr x] h :=
  e_ret (r := some (vr x)) hd (fun _ => by rw [ht]; exact trivial) hq
theorem e_areturnN {nm : String} (hd : decode (mC M) pc = .ok (.areturn, 1)) (ht : mT M = some (.object nm)) (hq : Q (some vn) h) : E M SX Q pc ls [vn] h :=
  e_ret (r := some vn) hd (fun _ => by rw [ht]; exact trivial) hq
theorem e_mono {Q' : Option MV → Mem → Prop} (hq : ∀ r h', Q' r h' → Q r h') (k : E M SX Q' pc ls st h) : E M SX Q pc ls st h := by
  intro p l e s m args below meth c dC dI cI cB ad A cells slots Qf C F H locs la w hl ho
  exact k p l e s m args below meth c dC dI cI cB ad A cells slots Qf C (fun r h' H' locs' pc' ls' q => F r h' H' locs' pc' ls' (hq r h' q)) H locs la w hl ho
/-- a method's locals at its entry -/
def lsOf : List MV → List (Option MV)
  | [] => []
  | (.inr (.inl a)) :: r => some (vl a) :: none :: lsOf r
  | v :: r => some v :: lsOf r
theorem lsOf_in (ad : Nat → Nat) : ∀ (av : List MV) (k i : Nat) (v : MV), (lsOf av)[i]? = some (some v) → (k + i, tv ad v) ∈ lv_args k (av.map (tv ad)) ∧ v ∈ av
  | [], k, i, v, h => by simp [lsOf] at h
  | (.inr (.inl a)) :: r, k, 0, v, h => by
    simp [lsOf] at h; subst h
    exact ⟨List.mem_cons_self, List.mem_cons_self⟩
  | (.inr (.inl a)) :: r, k, 1, v, h => by simp [lsOf] at h
  | (.inr (.inl a)) :: r, k, i + 2, v, h => by
    have h' : (lsOf r)[i]? = some (some v) := by simpa [lsOf] using h
    obtain ⟨h1, h2⟩ := lsOf_in ad r (k + 2) i v h'
    refine ⟨List.mem_cons_of_mem _ ?_, List.mem_cons_of_mem _ h2⟩
    show _ ∈ lv_args (if (tv ad (vl a)).category = 2 then k + 2 else k + 1) _
    rw [if_pos (by rw [cat_eq]; simp [catv]), show k + (i + 2) = k + 2 + i by omega]
    exact h1
  | (.inl a) :: r, k, 0, v, h => by
    simp [lsOf] at h; subst h
    exact ⟨List.mem_cons_self, List.mem_cons_self⟩
  | (.inl a) :: r, k, i + 1, v, h => by
    have h' : (lsOf r)[i]? = some (some v) := by simpa [lsOf] using h
    obtain ⟨h1, h2⟩ := lsOf_in ad r (k + 1) i v h'
    refine ⟨List.mem_cons_of_mem _ ?_, List.mem_cons_of_mem _ h2⟩
    show _ ∈ lv_args (if (tv ad (vi a)).category = 2 then k + 2 else k + 1) _
    rw [if_neg (by rw [cat_eq]; simp [catv]), show k + (i + 1) = k + 1 + i by omega]
    exact h1
  | (.inr (.inr o)) :: r, k, 0, v, h => by
    simp [lsOf] at h; subst h
    exact ⟨List.mem_cons_self, List.mem_cons_self⟩
  | (.inr (.inr o)) :: r, k, i + 1, v, h => by
    have h' : (lsOf r)[i]? = some (some v) := by simpa [lsOf] using h
    obtain ⟨h1, h2⟩ := lsOf_in ad r (k + 1) i v h'
    refine ⟨List.mem_cons_of_mem _ ?_, List.mem_cons_of_mem _ h2⟩
    show _ ∈ lv_args (if (tv ad (.inr (.inr o))).category = 2 then k + 2 else k + 1) _
    rw [if_neg (by rw [cat_eq]; simp [catv]), show k + (i + 1) = k + 1 + i by omega]
    exact h1
theorem Cn_of {av : List MV} (hpl : plainName (mY M).cls = true) (hlen : ∀ ad : Nat → Nat, (lg_sl (av.map (tv ad))).length ≤ mL M) (hrc : (mR M).cells = 0 ∧ (mR M).slots = 0) (k : E M none Q 0 (lsOf av) [] h) : Cn M av h Q := by
  intro l dC dI cI cB ad sz
  refine Met.ofW (cc := mC M) (maxL := mL M) (ret := mT M) (ws' := TB) hpl rfl ?_
  intro p e s m args below meth c s₁ B hml hv
  obtain ⟨rfl, hsz, hP, hK, hD, hM, hav, hZ, hT, hN⟩ := hv
  subst hsz
  have hts : ∀ w ∈ mW M, w.before (av.map (tv ad)).toArray s = true := atoms_spec (ws := mW M) B.pre
  have C : Ctx M none p s m (av.map (tv ad)).toArray meth c dC dI cI cB ad (va_A (wW cI cB ad h) s.heap.size) 0 0 :=
    ⟨B.exec, B.bytes, hml, findClass_of_methodNamed B.named, fun w hw => hts w (List.mem_cons_of_mem _ hw), hK, hZ, hT, fun q hq => Or.inr hq, ⟨by rw [hrc.1]; exact Nat.le_refl 0, by rw [hrc.2]; exact Nat.le_refl 0⟩, hN, fun L xs q => by cases q⟩
  have hlocks := B.notSynchronized
  have hret := B.returns
  have F : Fn M Q p l e s m (av.map (tv ad)).toArray below meth c dC dI cI cB ad (va_A (wW cI cB ad h) s.heap.size) 0 0 (MQ below (cQ M Q dC dI cI cB ad (va_A (wW cI cB ad h) s.heap.size)) (av.map (tv ad)).toArray s 0 0 (va_A (wW cI cB ad h) s.heap.size)) := by
    intro r h' H locs pc la hq w hok hd
    have fin : ∀ t : State, t.heap = H → s.WarmedH t.vm → cQ M Q dC dI cI cB ad (va_A (wW cI cB ad h) s.heap.size) (av.map (tv ad)).toArray s (.returned (r.map (tv ad))) t :=
      fun t ht _ => ⟨⟨r, h', rfl, hq, hok, by rw [ht]; exact w.1, w.2.1, w.2.2.2⟩, w.2.2.1.F ht⟩
    generalize hmt : mT M = T0 at hok hret
    match T0, r, hok with
    | none, none, _ => exact W.vret C.1 C.2.1 hret fin w.2.2.1.2.2 hd
    | some .int, some (.inl a), _ => exact W.iret C.1 C.2.1 hret fin w.2.2.1.2.2 hd
    | some .boolean, some (.inl a), hok =>
      refine W.zret C.1 C.2.1 hret ?_ fin w.2.2.1.2.2 hd
      rcases hok with rfl | rfl <;> decide
    | some .long, some (.inr (.inl a)), _ => exact W.lret C.1 C.2.1 hret fin w.2.2.1.2.2 hd
    | some (.object nm), some (.inr (.inr none)), _ => exact W.aret C.1 C.2.1 hret (Or.inl ⟨nm, rfl⟩) (Or.inl rfl) fin w.2.2.1.2.2 hd
    | some (.object nm), some (.inr (.inr (some x))), _ => exact W.aret C.1 C.2.1 hret (Or.inl ⟨nm, rfl⟩) (Or.inr ⟨_, rfl⟩) fin w.2.2.1.2.2 hd
  have hl0 := lv_entry (av.map (tv ad)) (n := mL M) (hlen ad)
  rw [lg_entry_eq]
  refine k p l e s m (av.map (tv ad)).toArray below meth c dC dI cI cB ad _ 0 0 _ C F s.heap [] _ ⟨hP, hD.self, va_S.rf, hM⟩ ⟨hl0.1, hl0.2.1, fun i v hi => ?_⟩ (fun v hv => by cases hv)
  obtain ⟨h1, h2⟩ := lsOf_in ad av 0 i v hi
  rw [Nat.zero_add] at h1
  exact ⟨hl0.2.2 _ h1, hav v h2⟩
end EC
