section EM
variable {M : MI} {SX : Option (Nat × (Nat → Int32))} {Q : Option MV → Mem → Prop} {pc : Nat} {ls : List (Option MV)} {st : List MV} {h : Mem}
/-- a field's link, in the tables -/
def FLk (nest : Bool) (own : String) (idx ci k : Nat) : Prop := ∃ (C : String) (T : u_T) (N : Nat), vwCl[ci]? = some (C, T, N) ∧ k < N ∧ (∀ w ∈ u_ws C T N, w ∈ TB) ∧
  (if nest then ∃ host, Cond.fieldLinkNest own idx (T k).1 (T k).2.1 (T k).2.2.1 host ∈ NW else Cond.fieldLink own idx (T k).1 (T k).2.1 (T k).2.2.1 ∈ TB)
theorem em_get {nest : Bool} {p : Program} {l : Launch} {e : Env} {R : Room} {s : State} {m : MethodId} {args : Array Value} {below : List Frame} {meth : Method} {c : Code} {H : Heap} {locs : List Loc} {cells slots : Nat} {Qf : State → Prop} {cc : ByteArray} {la : Array Slot} {rest : List Value} {D : va_G} {tys : List (ClassId × FieldType)} {ws : va_W} {a : Nat}
    (hexec : p.tables.exec = Jvm.exec) (hb : c.code = cc) {own : String} {ci idx k q0 : Nat} (hF : FLk nest own idx ci k) (hts : ∀ w ∈ TB, w.before args s = true) (hnw : ∀ w ∈ NW, va_Nw w s) (hown : s.vm.findClass own = some m.cls) (hK : va_K D vwCl tys s) (hP : va_P D vwCl ws H) {fs : List Value} (he : ws[q0]? = some (a, .inr (ci, fs))) {v : Value} (hv : fs[k]? = some v) (hdg : decode cc pc = .ok (.getfield idx, 3))
    (kk : W p l e R s m args below meth c H locs cells slots Qf (F0 m (pc + 3) la (v :: rest))) : W p l e R s m args below meth c H locs cells slots Qf (F0 m pc la (.ref a :: rest)) := by
  obtain ⟨C, T, N, h1, h2, h3, h4⟩ := hF
  cases nest with
  | false => exact va_get hexec hb hts h3 hown hK hP q0 he h1 k h2 (hts _ h4) (fun _ z => z) hv hdg kk
  | true =>
    obtain ⟨host, h4⟩ := h4
    exact va_getN hexec hb hts h3 hown hK hP q0 he h1 k h2 (va_Nw.use rfl (hnw _ h4)) (fun _ z => z) hv hdg kk
theorem e_getI {nest : Bool} {own : String} {idx ci k x t : Nat} {fl : List FK} {kz : Int} (hkz : (k : Int) = kz) (hd : decode (mC M) pc = .ok (.getfield idx, 3)) (ho' : (mY M).cls = own) (hF : FLk nest own idx ci k) (hc : kd[x]? = some (.inl (ci, fl))) (hf : fl[k]? = some (.inr t)) (ht : t = 0 ∨ t = 2) (kk : E M SX Q (pc + 3) ls (vi (h x kz) :: st) h) : E M SX Q pc ls (vr x :: st) h := by
  intro p l e s m args below meth c dC dI cI cB ad A cells slots Qf C F H locs la w hl ho
  subst ho'
  subst hkz
  have hr : RI (h x k) := by
    have := w.2.2.2 x _ hc k _ hf
    rcases ht with rfl | rfl
    · exact this
    · exact RI_01 this
  refine em_get C.1 C.2.1 hF C.2.2.2.2.1 C.2.2.2.2.2.2.2.2.2.2.1 C.2.2.2.1 C.2.2.2.2.2.1 w.1 (wW_get hc) (fvs_get (k := 0) hf) hd ?_
  have k' := kk p l e s m args below meth c dC dI cI cB ad A cells slots Qf C F H locs la w hl (ok_cons (show okv (vi _) from hr) (ok_tail ho))
  rcases ht with rfl | rfl
  · rw [Nat.zero_add]; exact k'
  · rw [Nat.zero_add]; exact k'
theorem e_getL {nest : Bool} {own : String} {idx ci k x : Nat} {fl : List FK} {kz : Int} (hkz : (k : Int) = kz) (hd : decode (mC M) pc = .ok (.getfield idx, 3)) (ho' : (mY M).cls = own) (hF : FLk nest own idx ci k) (hc : kd[x]? = some (.inl (ci, fl))) (hf : fl[k]? = some (.inr 1)) (kk : E M SX Q (pc + 3) ls (vl (h x kz) :: st) h) : E M SX Q pc ls (vr x :: st) h := by
  intro p l e s m args below meth c dC dI cI cB ad A cells slots Qf C F H locs la w hl ho
  subst ho'
  subst hkz
  have hr : RL64 (h x k) := w.2.2.2 x _ hc k _ hf
  refine em_get C.1 C.2.1 hF C.2.2.2.2.1 C.2.2.2.2.2.2.2.2.2.2.1 C.2.2.2.1 C.2.2.2.2.2.1 w.1 (wW_get hc) (fvs_get (k := 0) hf) hd ?_
  have k' := kk p l e s m args below meth c dC dI cI cB ad A cells slots Qf C F H locs la w hl (ok_cons (show okv (vl _) from hr) (ok_tail ho))
  rw [Nat.zero_add]; exact k'
theorem e_getR {nest : Bool} {own : String} {idx ci k x j : Nat} {fl : List FK} (hd : decode (mC M) pc = .ok (.getfield idx, 3)) (ho' : (mY M).cls = own) (hF : FLk nest own idx ci k) (hc : kd[x]? = some (.inl (ci, fl))) (hf : fl[k]? = some (.inl j)) (kk : E M SX Q (pc + 3) ls (vr j :: st) h) : E M SX Q pc ls (vr x :: st) h := by
  intro p l e s m args below meth c dC dI cI cB ad A cells slots Qf C F H locs la w hl ho
  subst ho'
  refine em_get C.1 C.2.1 hF C.2.2.2.2.1 C.2.2.2.2.2.2.2.2.2.2.1 C.2.2.2.1 C.2.2.2.2.2.1 w.1 (wW_get hc) (fvs_get (k := 0) hf) hd ?_
  exact kk p l e s m args below meth c dC dI cI cB ad A cells slots Qf C F H locs la w hl (ok_cons (show okv (vr _) from trivial) (ok_tail ho))
def ftT : Nat → FieldType
  | 1 => .long
  | 2 => .boolean
  | _ => .int
/-- a field that may be written: not final, of a kind -/
def FPk (own : String) (idx ci k t : Nat) (nest : Bool) : Prop := ∃ (C : String) (T : u_T) (N : Nat) (ty : Nat → FieldType), vwCl[ci]? = some (C, T, N) ∧ k < N ∧ (∀ w ∈ u_ws C T N, w ∈ TB) ∧
  (∀ k, k < N → parseFieldDescriptor (T k).2.2.1 = some (ty k)) ∧ (∀ a, a < N → ∀ b, b < N → a ≠ b → (T a).2.1 ≠ (T b).2.1) ∧ (T k).2.2.2 = false ∧ parseFieldDescriptor (T k).2.2.1 = some (ftT t) ∧
  (if nest then ∃ host, Cond.fieldLinkNest own idx (T k).1 (T k).2.1 (T k).2.2.1 host ∈ NW else Cond.fieldLink own idx (T k).1 (T k).2.1 (T k).2.2.1 ∈ TB)
theorem em_put {nest : Bool} {p : Program} {l : Launch} {e : Env} {R : Room} {s : State} {m : MethodId} {args : Array Value} {below : List Frame} {meth : Method} {c : Code} {H : Heap} {locs : List Loc} {cells slots : Nat} {Qf : State → Prop} {cc : ByteArray} {la : Array Slot} {rest : List Value} {D : va_G} {tys : List (ClassId × FieldType)} {ws : va_W} {a : Nat} {A : Nat → Prop} {H0 : Heap}
    (hexec : p.tables.exec = Jvm.exec) (hb : c.code = cc) {own : String} {ci idx k q0 t : Nat} (hF : FPk own idx ci k t nest) (hts : ∀ w ∈ TB, w.before args s = true) (hnw : ∀ w ∈ NW, va_Nw w s) (hown : s.vm.findClass own = some m.cls) (hK : va_K D vwCl tys s) (hP : va_P D vwCl ws H) (hD : va_D A ws) (hS : va_S A H0 H locs) {fs : List Value} (he : ws[q0]? = some (a, .inr (ci, fs))) {v : Value} (hn : narrow (ftT t) v = v) (hfit : fits (ftT t) v = true) (hl : k < fs.length) (hdg : decode cc pc = .ok (.putfield idx, 3))
    (kk : ∀ (H1 : Heap) (locs1 : List Loc), va_P D vwCl (ws.set q0 (a, .inr (ci, fs.set k v))) H1 → va_D A (ws.set q0 (a, .inr (ci, fs.set k v))) → va_S A H0 H1 locs1 → W p l e R s m args below meth c H1 locs1 cells slots Qf (F0 m (pc + 3) la rest)) : W p l e R s m args below meth c H locs cells slots Qf (F0 m pc la (v :: .ref a :: rest)) := by
  obtain ⟨C, T, N, ty, h1, h2, h3, h4, h5, h6, h7, h8⟩ := hF
  cases nest with
  | false => exact va_put hexec hb hts h3 ty h4 h5 hown hK hP hD hS q0 he h1 k h2 (hts _ h8) (fun _ z => z) h6 h7 hn hfit hl hdg kk
  | true =>
    obtain ⟨host, h8⟩ := h8
    exact va_putN hexec hb hts h3 ty h4 h5 hown hK hP hD hS q0 he h1 k h2 (va_Nw.use rfl (hnw _ h8)) (fun _ z => z) h6 h7 hn hfit hl hdg kk
theorem wW_upF {cI cB : ClassId} {ad : Nat → Nat} {x ci k t : Nat} {fl : List FK} {a : Int} (hc : kd[x]? = some (.inl (ci, fl))) (hf : fl[k]? = some (.inr t)) : (wW cI cB ad h).set x (ad x, .inr (ci, (fvs ad (h x) 0 fl).set k (fv1 ad a (.inr t)))) = wW cI cB ad (up h x k a) := by
  rw [fvs_set hf, up_fun, ← wW_set hc]
  show _ = (wW cI cB ad h).set x (ad x, .inr (ci, fvs ad (fun y => if y = (k : Int) then a else h x y) 0 fl))
  rw [Nat.zero_add]
theorem fv_n {ad : Nat → Nat} {t : Nat} {a : Int} (hok : tyok t a) : narrow (ftT t) (fv1 ad a (.inr t)) = fv1 ad a (.inr t) ∧ fits (ftT t) (fv1 ad a (.inr t)) = true := by
  match t, hok with
  | 0, _ => exact ⟨rfl, rfl⟩
  | 1, _ => exact ⟨rfl, rfl⟩
  | 2, hok =>
    rcases hok with rfl | rfl
    · show narrow .boolean (.int (I3 0)) = .int (I3 0) ∧ fits .boolean (.int (I3 0)) = true
      decide
    · show narrow .boolean (.int (I3 1)) = .int (I3 1) ∧ fits .boolean (.int (I3 1)) = true
      decide
  | t + 3, _ => exact ⟨rfl, rfl⟩
theorem e_putI {nest : Bool} {own : String} {idx ci k x t : Nat} {fl : List FK} {a kz : Int} (hkz : (k : Int) = kz) (hd : decode (mC M) pc = .ok (.putfield idx, 3)) (ho' : (mY M).cls = own) (hF : FPk own idx ci k t nest) (hc : kd[x]? = some (.inl (ci, fl))) (hf : fl[k]? = some (.inr t)) (ht : t = 0 ∨ (t = 2 ∧ (a = 0 ∨ a = 1))) (kk : E M SX Q (pc + 3) ls st (up h x kz a)) : E M SX Q pc ls (vi a :: vr x :: st) h := by
  intro p l e s m args below meth c dC dI cI cB ad A cells slots Qf C F H locs la w hl ho
  subst ho'
  subst hkz
  have hok : tyok t a := by
    rcases ht with rfl | ⟨rfl, ht⟩
    · exact (show RI a from ok_head ho)
    · exact ht
  have hv : fv1 ad a (.inr t) = .int (I3 a) := by rcases ht with rfl | ⟨rfl, ht⟩ <;> rfl
  have hlen : k < (fvs ad (h x) 0 fl).length := by rw [fvs_len]; exact (List.getElem?_eq_some_iff.mp hf).1
  have hn := fv_n (ad := ad) hok
  show W p l e (mR M) s m args below meth c H locs cells slots Qf (F0 m pc la (.int (I3 a) :: .ref (ad x) :: st.map (tv ad)))
  rw [← hv]
  refine em_put C.1 C.2.1 hF C.2.2.2.2.1 C.2.2.2.2.2.2.2.2.2.2.1 C.2.2.2.1 C.2.2.2.2.2.1 w.1 w.2.1 w.2.2.1 (wW_get hc) hn.1 hn.2 hlen hd (fun H1 locs1 p1 d1 s1 => ?_)
  rw [wW_upF hc hf] at p1 d1
  exact kk p l e s m args below meth c dC dI cI cB ad A cells slots Qf C F H1 locs1 la ⟨p1, d1, s1, RM_upF w.2.2.2 hc hf hok⟩ hl (ok_tail (ok_tail ho))
theorem e_putL {nest : Bool} {own : String} {idx ci k x : Nat} {fl : List FK} {a kz : Int} (hkz : (k : Int) = kz) (hd : decode (mC M) pc = .ok (.putfield idx, 3)) (ho' : (mY M).cls = own) (hF : FPk own idx ci k 1 nest) (hc : kd[x]? = some (.inl (ci, fl))) (hf : fl[k]? = some (.inr 1)) (kk : E M SX Q (pc + 3) ls st (up h x kz a)) : E M SX Q pc ls (vl a :: vr x :: st) h := by
  intro p l e s m args below meth c dC dI cI cB ad A cells slots Qf C F H locs la w hl ho
  subst ho'
  subst hkz
  have hok : tyok 1 a := ok_head ho
  have hlen : k < (fvs ad (h x) 0 fl).length := by rw [fvs_len]; exact (List.getElem?_eq_some_iff.mp hf).1
  have hn := fv_n (ad := ad) hok
  show W p l e (mR M) s m args below meth c H locs cells slots Qf (F0 m pc la (fv1 ad a (.inr 1) :: .ref (ad x) :: st.map (tv ad)))
  refine em_put C.1 C.2.1 hF C.2.2.2.2.1 C.2.2.2.2.2.2.2.2.2.2.1 C.2.2.2.1 C.2.2.2.2.2.1 w.1 w.2.1 w.2.2.1 (wW_get hc) hn.1 hn.2 hlen hd (fun H1 locs1 p1 d1 s1 => ?_)
  rw [wW_upF hc hf] at p1 d1
  exact kk p l e s m args below meth c dC dI cI cB ad A cells slots Qf C F H1 locs1 la ⟨p1, d1, s1, RM_upF w.2.2.2 hc hf hok⟩ hl (ok_tail (ok_tail ho))
/-- rows of an array -/
theorem in_I3 {i : Int} {n : Nat} (hr : RI i) (h0 : 0 ≤ i) (h1 : i < n) : vp_in (I3 i) n := by
  intro q
  rcases q with q | q
  · exact absurd ((z_lt hr).mp q) (by omega)
  · rw [I3_clamp h0 hr] at q
    omega
theorem e_iald {x n : Nat} {i : Int} (hd : decode (mC M) pc = .ok (.iaload, 1)) (hc : kd[x]? = some (.inr (n, false))) (hi : 0 ≤ i ∧ i < n) (kk : E M SX Q (pc + 1) ls (vi (h x i) :: st) h) : E M SX Q pc ls (vi i :: vr x :: st) h := by
  intro p l e s m args below meth c dC dI cI cB ad A cells slots Qf C F H locs la w hl ho
  have hr : RI i := ok_head ho
  have hv : RI (h x i) := w.2.2.2 x _ hc i hi.1 hi.2
  refine va_iald C.1 C.2.1 C.2.2.2.2.2.1 w.1 x 0 (wW_get hc) rfl (in_I3 hr hi.1 hi.2) hd ?_
  have k' := kk p l e s m args below meth c dC dI cI cB ad A cells slots Qf C F H locs la w hl (ok_cons (show okv (vi _) from hv) (ok_tail (ok_tail ho)))
  rw [I3_clamp hi.1 hr, Int.toNat_of_nonneg hi.1]
  exact k'
theorem e_bald {x n : Nat} {i : Int} (hd : decode (mC M) pc = .ok (.baload, 1)) (hc : kd[x]? = some (.inr (n, true))) (hi : 0 ≤ i ∧ i < n) (kk : E M SX Q (pc + 1) ls (vi (h x i) :: st) h) : E M SX Q pc ls (vi i :: vr x :: st) h := by
  intro p l e s m args below meth c dC dI cI cB ad A cells slots Qf C F H locs la w hl ho
  have hr : RI i := ok_head ho
  have hv : RI (h x i) := RI_01 (w.2.2.2 x _ hc i hi.1 hi.2)
  refine va_zald C.1 C.2.1 C.2.2.2.2.2.1 w.1 x 1 (wW_get hc) rfl (in_I3 hr hi.1 hi.2) hd ?_
  have k' := kk p l e s m args below meth c dC dI cI cB ad A cells slots Qf C F H locs la w hl (ok_cons (show okv (vi _) from hv) (ok_tail (ok_tail ho)))
  rw [I3_clamp hi.1 hr, Int.toNat_of_nonneg hi.1]
  exact k'
theorem wW_upA {cI cB : ClassId} {ad : Nat → Nat} {x n : Nat} {b : Bool} {i a : Int} (hc : kd[x]? = some (.inr (n, b))) (hr : RI i) (h0 : 0 ≤ i) : (wW cI cB ad h).set x (ad x, .inl (if b then cB else cI, n, .inl (upd (fun j => I3 (h x (j : Int))) (I3 i).toNatClampNeg (I3 a)))) = wW cI cB ad (up h x i a) := by
  rw [up_fun, ← wW_set hc]
  congr 1
  show (_, Sum.inl (_, n, Sum.inl _)) = (_, Sum.inl (_, n, Sum.inl _))
  congr 4
  congr 1
  funext j
  rw [I3_clamp h0 hr]
  dsimp only
  unfold upd
  by_cases hj : j = i.toNat
  · rw [if_pos hj, if_pos (by omega)]
  · rw [if_neg hj, if_neg (by omega)]
theorem e_iast {x n : Nat} {i a : Int} (hd : decode (mC M) pc = .ok (.iastore, 1)) (hc : kd[x]? = some (.inr (n, false))) (hi : 0 ≤ i ∧ i < n) (kk : E M SX Q (pc + 1) ls st (up h x i a)) : E M SX Q pc ls (vi a :: vi i :: vr x :: st) h := by
  intro p l e s m args below meth c dC dI cI cB ad A cells slots Qf C F H locs la w hl ho
  have ha : RI a := ok_head ho
  have hr : RI i := ok_head (ok_tail ho)
  refine va_iast C.1 C.2.1 C.2.2.2.2.2.1 w.1 w.2.1 w.2.2.1 x 0 (wW_get hc) rfl (in_I3 hr hi.1 hi.2) hd (fun H1 locs1 p1 d1 s1 => ?_)
  have e1 := wW_upA (cI := cI) (cB := cB) (ad := ad) (h := h) (a := a) hc hr hi.1
  simp only [Bool.false_eq_true, if_false] at e1 p1 d1
  rw [e1] at p1 d1
  exact kk p l e s m args below meth c dC dI cI cB ad A cells slots Qf C F H1 locs1 la ⟨p1, d1, s1, RM_upA w.2.2.2 hc ha⟩ hl (ok_tail (ok_tail (ok_tail ho)))
theorem nar_01 {a : Int} (ha : a = 0 ∨ a = 1) : vp_nar .boolean (I3 a) = I3 a := by
  rcases ha with rfl | rfl <;> decide
theorem e_bast {x n : Nat} {i a : Int} (hd : decode (mC M) pc = .ok (.bastore, 1)) (hc : kd[x]? = some (.inr (n, true))) (hi : 0 ≤ i ∧ i < n) (ha : a = 0 ∨ a = 1) (kk : E M SX Q (pc + 1) ls st (up h x i a)) : E M SX Q pc ls (vi a :: vi i :: vr x :: st) h := by
  intro p l e s m args below meth c dC dI cI cB ad A cells slots Qf C F H locs la w hl ho
  have hr : RI i := ok_head (ok_tail ho)
  refine va_zast C.1 C.2.1 C.2.2.2.2.2.1 w.1 w.2.1 w.2.2.1 x 1 (wW_get hc) rfl (in_I3 hr hi.1 hi.2) hd (fun H1 locs1 p1 d1 s1 => ?_)
  have e1 := wW_upA (cI := cI) (cB := cB) (ad := ad) (h := h) (a := a) hc hr hi.1
  rw [nar_01 ha] at p1 d1
  simp only [if_true] at e1 p1 d1
  rw [e1] at p1 d1
  exact kk p l e s m args below meth c dC dI cI cB ad A cells slots Qf C F H1 locs1 la ⟨p1, d1, s1, RM_upA w.2.2.2 hc ha⟩ hl (ok_tail (ok_tail (ok_tail ho)))
/-- the table ORDERS, the script -/
theorem e_ords {own : String} {idx : Nat} (hd : decode (mC M) pc = .ok (.getstatic idx, 3)) (ho' : (mY M).cls = own) (hw : Cond.fieldLink own idx "StarRight" "ORDERS" "[I" ∈ TB) (kk : E M SX Q (pc + 3) ls (vr 63 :: st) h) : E M SX Q pc ls st h := by
  intro p l e s m args below meth c dC dI cI cB ad A cells slots Qf C F H locs la w hl ho
  subst ho'
  exact va_gets C.1 C.2.1 C.2.2.2.2.2.2.1 w.2.2.1 C.2.2.2.1 (C.2.2.2.2.1 _ hw) (fun _ z => z) hd (kk p l e s m args below meth c dC dI cI cB ad A cells slots Qf C F H locs la w hl (ok_cons (show okv (vr _) from trivial) ho))
theorem e_ordlen (hd : decode (mC M) pc = .ok (.arraylength, 1)) (kk : E M SX Q (pc + 1) ls (vi 6 :: st) h) : E M SX Q pc ls (vr 63 :: st) h := by
  intro p l e s m args below meth c dC dI cI cB ad A cells slots Qf C F H locs la w hl ho
  exact va_tlen C.1 C.2.1 C.2.2.2.2.2.2.2.1 w.2.2.1 rfl hd (kk p l e s m args below meth c dC dI cI cB ad A cells slots Qf C F H locs la w hl (ok_cons (show RI 6 from ⟨by decide, by decide⟩) (ok_tail ho)))
def ord6 (i : Int) : Int := if i = 0 then 1 else if i = 1 then 1 else if i = 2 then 2 else if i = 3 then 6 else if i = 4 then 24 else 120
theorem e_ordld {i : Int} (hd : decode (mC M) pc = .ok (.iaload, 1)) (hi : 0 ≤ i ∧ i < 6) (kk : E M SX Q (pc + 1) ls (vi (ord6 i) :: st) h) : E M SX Q pc ls (vi i :: vr 63 :: st) h := by
  intro p l e s m args below meth c dC dI cI cB ad A cells slots Qf C F H locs la w hl ho
  have hr : RI i := ok_head ho
  have hv : RI (ord6 i) := by unfold ord6 RI; omega
  refine va_ti C.1 C.2.1 C.2.2.2.2.2.2.2.1 w.2.2.1 (in_I3 (n := 6) hr hi.1 hi.2) (v := .int (I3 (ord6 i))) ?_ hd (kk p l e s m args below meth c dC dI cI cB ad A cells slots Qf C F H locs la w hl (ok_cons (show okv (vi _) from hv) (ok_tail (ok_tail ho))))
  rw [I3_clamp hi.1 hr]
  rcases (show i = 0 ∨ i = 1 ∨ i = 2 ∨ i = 3 ∨ i = 4 ∨ i = 5 by omega) with rfl | rfl | rfl | rfl | rfl | rfl <;> rfl
theorem e_slen {L : Nat} {xs : Nat → Int32} (hd : decode (mC M) pc = .ok (.arraylength, 1)) (hX : SX = some (L, xs)) (hL : L < 2147483648) (kk : E M SX Q (pc + 1) ls (vi L :: st) h) : E M SX Q pc ls (vr 64 :: st) h := by
  intro p l e s m args below meth c dC dI cI cB ad A cells slots Qf C F H locs la w hl ho
  obtain ⟨h1, h2, h3⟩ := C.2.2.2.2.2.2.2.2.2.2.2 L xs hX
  exact va_slen C.1 C.2.1 h1 h2 h3 w.2.2.1 hd (kk p l e s m args below meth c dC dI cI cB ad A cells slots Qf C F H locs la w hl (ok_cons (show RI _ from ⟨by omega, by omega⟩) (ok_tail ho)))
theorem e_sld {L : Nat} {xs : Nat → Int32} {i : Int} (hd : decode (mC M) pc = .ok (.iaload, 1)) (hX : SX = some (L, xs)) (hi : 0 ≤ i ∧ i < L) (kk : E M SX Q (pc + 1) ls (vi (xs i.toNat).toInt :: st) h) : E M SX Q pc ls (vi i :: vr 64 :: st) h := by
  intro p l e s m args below meth c dC dI cI cB ad A cells slots Qf C F H locs la w hl ho
  obtain ⟨h1, h2, h3⟩ := C.2.2.2.2.2.2.2.2.2.2.2 L xs hX
  have hr : RI i := ok_head ho
  refine va_sld C.1 C.2.1 h1 h2 h3 w.2.2.1 (in_I3 hr hi.1 hi.2) hd ?_
  have k' := kk p l e s m args below meth c dC dI cI cB ad A cells slots Qf C F H locs la w hl (ok_cons (show okv (vi _) from RI_toInt _) (ok_tail (ok_tail ho)))
  rw [I3_clamp hi.1 hr, ← I3_toInt (xs i.toNat)]
  exact k'
end EM
