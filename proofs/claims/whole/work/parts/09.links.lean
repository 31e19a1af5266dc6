section EP
variable {M M' : MI} {SX : Option (Nat × (Nat → Int32))} {Q : Option MV → Mem → Prop} {pc : Nat} {ls : List (Option MV)} {st : List MV} {h : Mem}
def mkL : List Bool → List (Option MV) → List (Option MV)
  | true :: b, v :: r => v :: mkL b r
  | false :: b, _ :: r => none :: mkL b r
  | _, _ => []
theorem mkL_in : ∀ (b : List Bool) (ls : List (Option MV)) (i : Nat) (v : MV), (mkL b ls)[i]? = some (some v) → ls[i]? = some (some v)
  | [], ls, i, v, e => by simp [mkL] at e
  | true :: b, [], i, v, e => by simp [mkL] at e
  | false :: b, [], i, v, e => by simp [mkL] at e
  | true :: b, x :: r, 0, v, e => by simpa [mkL] using e
  | false :: b, x :: r, 0, v, e => by simp [mkL] at e
  | true :: b, x :: r, i + 1, v, e => by
    have := mkL_in b r i v (by simpa [mkL] using e)
    simpa using this
  | false :: b, x :: r, i + 1, v, e => by
    have := mkL_in b r i v (by simpa [mkL] using e)
    simpa using this
theorem e_mask (b : List Bool) (k : E M SX Q pc (mkL b ls) st h) : E M SX Q pc ls st h := e_weak _ (mkL_in b ls) k
theorem e_pad (k : Nat) (kk : E M SX Q pc (ls ++ List.replicate k none) st h) : E M SX Q pc ls st h := by
  refine e_weak _ (fun i v e => ?_) kk
  rw [List.getElem?_append] at e
  split at e
  · exact e
  · rw [List.getElem?_replicate] at e
    split at e <;> simp at e
theorem ifp {c : Prop} [Decidable c] {α : Type} {a b x : α} (hf : (if c then a else b) = x) (hc : c) : a = x := by rw [if_pos hc] at hf; exact hf
theorem ifn {c : Prop} [Decidable c] {α : Type} {a b x : α} (hf : (if c then a else b) = x) (hc : ¬ c) : b = x := by rw [if_neg hc] at hf; exact hf
def IsT (t : Nat) : Prop := kd[t]? = some (.inl (6, townK t)) ∧ kd[t + 1]? = some (.inr (5, false)) ∧ kd[t + 2]? = some (.inr (5, false)) ∧ kd[t + 3]? = some (.inr (5, false)) ∧ kd[t + 4]? = some (.inr (4, false))
theorem isT7 : IsT 7 := ⟨rfl, rfl, rfl, rfl, rfl⟩
theorem isT12 : IsT 12 := ⟨rfl, rfl, rfl, rfl, rfl⟩
theorem isT18 : IsT 18 := ⟨rfl, rfl, rfl, rfl, rfl⟩
theorem isT24 : IsT 24 := ⟨rfl, rfl, rfl, rfl, rfl⟩
theorem lsw2 {a o0 o1 d : Int} (h0 : ¬ a = 0) (h1 : ¬ a = 1) : Op.lookupswitch.offset [(0, o0), (1, o1)] d a = d := by
  rw [Op.lookupswitch.offset_cons, if_neg (fun q => h0 q.symm), Op.lookupswitch.offset_cons, if_neg (fun q => h1 q.symm)]
  rfl
theorem e_callV0i {x idx ci N : Nat} {T : u_T} {fl : List FK} {own : String} {r : Int} {h0 : Mem} (hd : decode (mC M) pc = .ok (.invokevirtual idx, 3)) (ho' : (mY M).cls = own) (hL : VLk own idx M' 0) (hfit : rfit M' M) (hc : kd[x]? = some (.inl (ci, fl))) (hci : vwCl[ci]? = some ((mY M').cls, T, N)) (hst : (st.map catv).sum ≤ 8) (hcn : Cn M' (vr x :: []) h (fun r' h' => r' = some (vi r) ∧ h' = h0)) (kk : E M SX Q (pc + 3) ls (vi r :: st) h0) : E M SX Q pc ls (vr x :: st) h := e_callV (av := []) hd ho' hL rfl hfit hc hci hst hcn kk
theorem e_callS0i {idx : Nat} {own : String} {r : Int} {h0 : Mem} (hd : decode (mC M) pc = .ok (.invokestatic idx, 3)) (ho' : (mY M).cls = own) (hL : SLk own idx M' 0) (hfit : rfit M' M) (hst : (st.map catv).sum ≤ 8) (hcn : Cn M' [] h (fun r' h' => r' = some (vi r) ∧ h' = h0)) (kk : E M SX Q (pc + 3) ls (vi r :: st) h0) : E M SX Q pc ls (st) h := e_callS (av := []) hd ho' hL rfl hfit hst hcn kk
theorem e_callV0l {x idx ci N : Nat} {T : u_T} {fl : List FK} {own : String} {r : Int} {h0 : Mem} (hd : decode (mC M) pc = .ok (.invokevirtual idx, 3)) (ho' : (mY M).cls = own) (hL : VLk own idx M' 0) (hfit : rfit M' M) (hc : kd[x]? = some (.inl (ci, fl))) (hci : vwCl[ci]? = some ((mY M').cls, T, N)) (hst : (st.map catv).sum ≤ 8) (hcn : Cn M' (vr x :: []) h (fun r' h' => r' = some (vl r) ∧ h' = h0)) (kk : E M SX Q (pc + 3) ls (vl r :: st) h0) : E M SX Q pc ls (vr x :: st) h := e_callV (av := []) hd ho' hL rfl hfit hc hci hst hcn kk
theorem e_callS0l {idx : Nat} {own : String} {r : Int} {h0 : Mem} (hd : decode (mC M) pc = .ok (.invokestatic idx, 3)) (ho' : (mY M).cls = own) (hL : SLk own idx M' 0) (hfit : rfit M' M) (hst : (st.map catv).sum ≤ 8) (hcn : Cn M' [] h (fun r' h' => r' = some (vl r) ∧ h' = h0)) (kk : E M SX Q (pc + 3) ls (vl r :: st) h0) : E M SX Q pc ls (st) h := e_callS (av := []) hd ho' hL rfl hfit hst hcn kk
theorem e_callV0v {x idx ci N : Nat} {T : u_T} {fl : List FK} {own : String} {h0 : Mem} (hd : decode (mC M) pc = .ok (.invokevirtual idx, 3)) (ho' : (mY M).cls = own) (hL : VLk own idx M' 0) (hfit : rfit M' M) (hc : kd[x]? = some (.inl (ci, fl))) (hci : vwCl[ci]? = some ((mY M').cls, T, N)) (hst : (st.map catv).sum ≤ 8) (hcn : Cn M' (vr x :: []) h (fun r' h' => r' = none ∧ h' = h0)) (kk : E M SX Q (pc + 3) ls (st) h0) : E M SX Q pc ls (vr x :: st) h := e_callV (av := []) hd ho' hL rfl hfit hc hci hst hcn kk
theorem e_callS0v {idx : Nat} {own : String} {h0 : Mem} (hd : decode (mC M) pc = .ok (.invokestatic idx, 3)) (ho' : (mY M).cls = own) (hL : SLk own idx M' 0) (hfit : rfit M' M) (hst : (st.map catv).sum ≤ 8) (hcn : Cn M' [] h (fun r' h' => r' = none ∧ h' = h0)) (kk : E M SX Q (pc + 3) ls (st) h0) : E M SX Q pc ls (st) h := e_callS (av := []) hd ho' hL rfl hfit hst hcn kk
theorem e_callV0o {x idx ci N : Nat} {T : u_T} {fl : List FK} {own : String} {r : Option Nat} {h0 : Mem} (hd : decode (mC M) pc = .ok (.invokevirtual idx, 3)) (ho' : (mY M).cls = own) (hL : VLk own idx M' 0) (hfit : rfit M' M) (hc : kd[x]? = some (.inl (ci, fl))) (hci : vwCl[ci]? = some ((mY M').cls, T, N)) (hst : (st.map catv).sum ≤ 8) (hcn : Cn M' (vr x :: []) h (fun r' h' => r' = some (.inr (.inr r)) ∧ h' = h0)) (kk : E M SX Q (pc + 3) ls (.inr (.inr r) :: st) h0) : E M SX Q pc ls (vr x :: st) h := e_callV (av := []) hd ho' hL rfl hfit hc hci hst hcn kk
theorem e_callS0o {idx : Nat} {own : String} {r : Option Nat} {h0 : Mem} (hd : decode (mC M) pc = .ok (.invokestatic idx, 3)) (ho' : (mY M).cls = own) (hL : SLk own idx M' 0) (hfit : rfit M' M) (hst : (st.map catv).sum ≤ 8) (hcn : Cn M' [] h (fun r' h' => r' = some (.inr (.inr r)) ∧ h' = h0)) (kk : E M SX Q (pc + 3) ls (.inr (.inr r) :: st) h0) : E M SX Q pc ls (st) h := e_callS (av := []) hd ho' hL rfl hfit hst hcn kk
theorem e_callV1i {v1 : MV} {x idx ci N : Nat} {T : u_T} {fl : List FK} {own : String} {r : Int} {h0 : Mem} (hd : decode (mC M) pc = .ok (.invokevirtual idx, 3)) (ho' : (mY M).cls = own) (hL : VLk own idx M' 1) (hfit : rfit M' M) (hc : kd[x]? = some (.inl (ci, fl))) (hci : vwCl[ci]? = some ((mY M').cls, T, N)) (hst : (st.map catv).sum ≤ 8) (hcn : Cn M' (vr x :: [v1]) h (fun r' h' => r' = some (vi r) ∧ h' = h0)) (kk : E M SX Q (pc + 3) ls (vi r :: st) h0) : E M SX Q pc ls (v1 :: vr x :: st) h := e_callV (av := [v1]) hd ho' hL rfl hfit hc hci hst hcn kk
theorem e_callS1i {v1 : MV} {idx : Nat} {own : String} {r : Int} {h0 : Mem} (hd : decode (mC M) pc = .ok (.invokestatic idx, 3)) (ho' : (mY M).cls = own) (hL : SLk own idx M' 1) (hfit : rfit M' M) (hst : (st.map catv).sum ≤ 8) (hcn : Cn M' [v1] h (fun r' h' => r' = some (vi r) ∧ h' = h0)) (kk : E M SX Q (pc + 3) ls (vi r :: st) h0) : E M SX Q pc ls (v1 :: st) h := e_callS (av := [v1]) hd ho' hL rfl hfit hst hcn kk
theorem e_callV1l {v1 : MV} {x idx ci N : Nat} {T : u_T} {fl : List FK} {own : String} {r : Int} {h0 : Mem} (hd : decode (mC M) pc = .ok (.invokevirtual idx, 3)) (ho' : (mY M).cls = own) (hL : VLk own idx M' 1) (hfit : rfit M' M) (hc : kd[x]? = some (.inl (ci, fl))) (hci : vwCl[ci]? = some ((mY M').cls, T, N)) (hst : (st.map catv).sum ≤ 8) (hcn : Cn M' (vr x :: [v1]) h (fun r' h' => r' = some (vl r) ∧ h' = h0)) (kk : E M SX Q (pc + 3) ls (vl r :: st) h0) : E M SX Q pc ls (v1 :: vr x :: st) h := e_callV (av := [v1]) hd ho' hL rfl hfit hc hci hst hcn kk
theorem e_callS1l {v1 : MV} {idx : Nat} {own : String} {r : Int} {h0 : Mem} (hd : decode (mC M) pc = .ok (.invokestatic idx, 3)) (ho' : (mY M).cls = own) (hL : SLk own idx M' 1) (hfit : rfit M' M) (hst : (st.map catv).sum ≤ 8) (hcn : Cn M' [v1] h (fun r' h' => r' = some (vl r) ∧ h' = h0)) (kk : E M SX Q (pc + 3) ls (vl r :: st) h0) : E M SX Q pc ls (v1 :: st) h := e_callS (av := [v1]) hd ho' hL rfl hfit hst hcn kk
theorem e_callV1v {v1 : MV} {x idx ci N : Nat} {T : u_T} {fl : List FK} {own : String} {h0 : Mem} (hd : decode (mC M) pc = .ok (.invokevirtual idx, 3)) (ho' : (mY M).cls = own) (hL : VLk own idx M' 1) (hfit : rfit M' M) (hc : kd[x]? = some (.inl (ci, fl))) (hci : vwCl[ci]? = some ((mY M').cls, T, N)) (hst : (st.map catv).sum ≤ 8) (hcn : Cn M' (vr x :: [v1]) h (fun r' h' => r' = none ∧ h' = h0)) (kk : E M SX Q (pc + 3) ls (st) h0) : E M SX Q pc ls (v1 :: vr x :: st) h := e_callV (av := [v1]) hd ho' hL rfl hfit hc hci hst hcn kk
theorem e_callS1v {v1 : MV} {idx : Nat} {own : String} {h0 : Mem} (hd : decode (mC M) pc = .ok (.invokestatic idx, 3)) (ho' : (mY M).cls = own) (hL : SLk own idx M' 1) (hfit : rfit M' M) (hst : (st.map catv).sum ≤ 8) (hcn : Cn M' [v1] h (fun r' h' => r' = none ∧ h' = h0)) (kk : E M SX Q (pc + 3) ls (st) h0) : E M SX Q pc ls (v1 :: st) h := e_callS (av := [v1]) hd ho' hL rfl hfit hst hcn kk
theorem e_callV1o {v1 : MV} {x idx ci N : Nat} {T : u_T} {fl : List FK} {own : String} {r : Option Nat} {h0 : Mem} (hd : decode (mC M) pc = .ok (.invokevirtual idx, 3)) (ho' : (mY M).cls = own) (hL : VLk own idx M' 1) (hfit : rfit M' M) (hc : kd[x]? = some (.inl (ci, fl))) (hci : vwCl[ci]? = some ((mY M').cls, T, N)) (hst : (st.map catv).sum ≤ 8) (hcn : Cn M' (vr x :: [v1]) h (fun r' h' => r' = some (.inr (.inr r)) ∧ h' = h0)) (kk : E M SX Q (pc + 3) ls (.inr (.inr r) :: st) h0) : E M SX Q pc ls (v1 :: vr x :: st) h := e_callV (av := [v1]) hd ho' hL rfl hfit hc hci hst hcn kk
theorem e_callS1o {v1 : MV} {idx : Nat} {own : String} {r : Option Nat} {h0 : Mem} (hd : decode (mC M) pc = .ok (.invokestatic idx, 3)) (ho' : (mY M).cls = own) (hL : SLk own idx M' 1) (hfit : rfit M' M) (hst : (st.map catv).sum ≤ 8) (hcn : Cn M' [v1] h (fun r' h' => r' = some (.inr (.inr r)) ∧ h' = h0)) (kk : E M SX Q (pc + 3) ls (.inr (.inr r) :: st) h0) : E M SX Q pc ls (v1 :: st) h := e_callS (av := [v1]) hd ho' hL rfl hfit hst hcn kk
theorem e_callV2i {v1 v2 : MV} {x idx ci N : Nat} {T : u_T} {fl : List FK} {own : String} {r : Int} {h0 : Mem} (hd : decode (mC M) pc = .ok (.invokevirtual idx, 3)) (ho' : (mY M).cls = own) (hL : VLk own idx M' 2) (hfit : rfit M' M) (hc : kd[x]? = some (.inl (ci, fl))) (hci : vwCl[ci]? = some ((mY M').cls, T, N)) (hst : (st.map catv).sum ≤ 8) (hcn : Cn M' (vr x :: [v1, v2]) h (fun r' h' => r' = some (vi r) ∧ h' = h0)) (kk : E M SX Q (pc + 3) ls (vi r :: st) h0) : E M SX Q pc ls (v2 :: v1 :: vr x :: st) h := e_callV (av := [v1, v2]) hd ho' hL rfl hfit hc hci hst hcn kk
theorem e_callS2i {v1 v2 : MV} {idx : Nat} {own : String} {r : Int} {h0 : Mem} (hd : decode (mC M) pc = .ok (.invokestatic idx, 3)) (ho' : (mY M).cls = own) (hL : SLk own idx M' 2) (hfit : rfit M' M) (hst : (st.map catv).sum ≤ 8) (hcn : Cn M' [v1, v2] h (fun r' h' => r' = some (vi r) ∧ h' = h0)) (kk : E M SX Q (pc + 3) ls (vi r :: st) h0) : E M SX Q pc ls (v2 :: v1 :: st) h := e_callS (av := [v1, v2]) hd ho' hL rfl hfit hst hcn kk
theorem e_callV2l {v1 v2 : MV} {x idx ci N : Nat} {T : u_T} {fl : List FK} {own : String} {r : Int} {h0 : Mem} (hd : decode (mC M) pc = .ok (.invokevirtual idx, 3)) (ho' : (mY M).cls = own) (hL : VLk own idx M' 2) (hfit : rfit M' M) (hc : kd[x]? = some (.inl (ci, fl))) (hci : vwCl[ci]? = some ((mY M').cls, T, N)) (hst : (st.map catv).sum ≤ 8) (hcn : Cn M' (vr x :: [v1, v2]) h (fun r' h' => r' = some (vl r) ∧ h' = h0)) (kk : E M SX Q (pc + 3) ls (vl r :: st) h0) : E M SX Q pc ls (v2 :: v1 :: vr x :: st) h := e_callV (av := [v1, v2]) hd ho' hL rfl hfit hc hci hst hcn kk
theorem e_callS2l {v1 v2 : MV} {idx : Nat} {own : String} {r : Int} {h0 : Mem} (hd : decode (mC M) pc = .ok (.invokestatic idx, 3)) (ho' : (mY M).cls = own) (hL : SLk own idx M' 2) (hfit : rfit M' M) (hst : (st.map catv).sum ≤ 8) (hcn : Cn M' [v1, v2] h (fun r' h' => r' = some (vl r) ∧ h' = h0)) (kk : E M SX Q (pc + 3) ls (vl r :: st) h0) : E M SX Q pc ls (v2 :: v1 :: st) h := e_callS (av := [v1, v2]) hd ho' hL rfl hfit hst hcn kk
theorem e_callV2v {v1 v2 : MV} {x idx ci N : Nat} {T : u_T} {fl : List FK} {own : String} {h0 : Mem} (hd : decode (mC M) pc = .ok (.invokevirtual idx, 3)) (ho' : (mY M).cls = own) (hL : VLk own idx M' 2) (hfit : rfit M' M) (hc : kd[x]? = some (.inl (ci, fl))) (hci : vwCl[ci]? = some ((mY M').cls, T, N)) (hst : (st.map catv).sum ≤ 8) (hcn : Cn M' (vr x :: [v1, v2]) h (fun r' h' => r' = none ∧ h' = h0)) (kk : E M SX Q (pc + 3) ls (st) h0) : E M SX Q pc ls (v2 :: v1 :: vr x :: st) h := e_callV (av := [v1, v2]) hd ho' hL rfl hfit hc hci hst hcn kk
theorem e_callS2v {v1 v2 : MV} {idx : Nat} {own : String} {h0 : Mem} (hd : decode (mC M) pc = .ok (.invokestatic idx, 3)) (ho' : (mY M).cls = own) (hL : SLk own idx M' 2) (hfit : rfit M' M) (hst : (st.map catv).sum ≤ 8) (hcn : Cn M' [v1, v2] h (fun r' h' => r' = none ∧ h' = h0)) (kk : E M SX Q (pc + 3) ls (st) h0) : E M SX Q pc ls (v2 :: v1 :: st) h := e_callS (av := [v1, v2]) hd ho' hL rfl hfit hst hcn kk
theorem e_callV3i {v1 v2 v3 : MV} {x idx ci N : Nat} {T : u_T} {fl : List FK} {own : String} {r : Int} {h0 : Mem} (hd : decode (mC M) pc = .ok (.invokevirtual idx, 3)) (ho' : (mY M).cls = own) (hL : VLk own idx M' 3) (hfit : rfit M' M) (hc : kd[x]? = some (.inl (ci, fl))) (hci : vwCl[ci]? = some ((mY M').cls, T, N)) (hst : (st.map catv).sum ≤ 8) (hcn : Cn M' (vr x :: [v1, v2, v3]) h (fun r' h' => r' = some (vi r) ∧ h' = h0)) (kk : E M SX Q (pc + 3) ls (vi r :: st) h0) : E M SX Q pc ls (v3 :: v2 :: v1 :: vr x :: st) h := e_callV (av := [v1, v2, v3]) hd ho' hL rfl hfit hc hci hst hcn kk
theorem e_callS3i {v1 v2 v3 : MV} {idx : Nat} {own : String} {r : Int} {h0 : Mem} (hd : decode (mC M) pc = .ok (.invokestatic idx, 3)) (ho' : (mY M).cls = own) (hL : SLk own idx M' 3) (hfit : rfit M' M) (hst : (st.map catv).sum ≤ 8) (hcn : Cn M' [v1, v2, v3] h (fun r' h' => r' = some (vi r) ∧ h' = h0)) (kk : E M SX Q (pc + 3) ls (vi r :: st) h0) : E M SX Q pc ls (v3 :: v2 :: v1 :: st) h := e_callS (av := [v1, v2, v3]) hd ho' hL rfl hfit hst hcn kk
theorem e_callV3l {v1 v2 v3 : MV} {x idx ci N : Nat} {T : u_T} {fl : List FK} {own : String} {r : Int} {h0 : Mem} (hd : decode (mC M) pc = .ok (.invokevirtual idx, 3)) (ho' : (mY M).cls = own) (hL : VLk own idx M' 3) (hfit : rfit M' M) (hc : kd[x]? = some (.inl (ci, fl))) (hci : vwCl[ci]? = some ((mY M').cls, T, N)) (hst : (st.map catv).sum ≤ 8) (hcn : Cn M' (vr x :: [v1, v2, v3]) h (fun r' h' => r' = some (vl r) ∧ h' = h0)) (kk : E M SX Q (pc + 3) ls (vl r :: st) h0) : E M SX Q pc ls (v3 :: v2 :: v1 :: vr x :: st) h := e_callV (av := [v1, v2, v3]) hd ho' hL rfl hfit hc hci hst hcn kk
theorem e_callS3l {v1 v2 v3 : MV} {idx : Nat} {own : String} {r : Int} {h0 : Mem} (hd : decode (mC M) pc = .ok (.invokestatic idx, 3)) (ho' : (mY M).cls = own) (hL : SLk own idx M' 3) (hfit : rfit M' M) (hst : (st.map catv).sum ≤ 8) (hcn : Cn M' [v1, v2, v3] h (fun r' h' => r' = some (vl r) ∧ h' = h0)) (kk : E M SX Q (pc + 3) ls (vl r :: st) h0) : E M SX Q pc ls (v3 :: v2 :: v1 :: st) h := e_callS (av := [v1, v2, v3]) hd ho' hL rfl hfit hst hcn kk
theorem e_callV3v {v1 v2 v3 : MV} {x idx ci N : Nat} {T : u_T} {fl : List FK} {own : String} {h0 : Mem} (hd : decode (mC M) pc = .ok (.invokevirtual idx, 3)) (ho' : (mY M).cls = own) (hL : VLk own idx M' 3) (hfit : rfit M' M) (hc : kd[x]? = some (.inl (ci, fl))) (hci : vwCl[ci]? = some ((mY M').cls, T, N)) (hst : (st.map catv).sum ≤ 8) (hcn : Cn M' (vr x :: [v1, v2, v3]) h (fun r' h' => r' = none ∧ h' = h0)) (kk : E M SX Q (pc + 3) ls (st) h0) : E M SX Q pc ls (v3 :: v2 :: v1 :: vr x :: st) h := e_callV (av := [v1, v2, v3]) hd ho' hL rfl hfit hc hci hst hcn kk
theorem e_callS3v {v1 v2 v3 : MV} {idx : Nat} {own : String} {h0 : Mem} (hd : decode (mC M) pc = .ok (.invokestatic idx, 3)) (ho' : (mY M).cls = own) (hL : SLk own idx M' 3) (hfit : rfit M' M) (hst : (st.map catv).sum ≤ 8) (hcn : Cn M' [v1, v2, v3] h (fun r' h' => r' = none ∧ h' = h0)) (kk : E M SX Q (pc + 3) ls (st) h0) : E M SX Q pc ls (v3 :: v2 :: v1 :: st) h := e_callS (av := [v1, v2, v3]) hd ho' hL rfl hfit hst hcn kk
theorem e_callV4i {v1 v2 v3 v4 : MV} {x idx ci N : Nat} {T : u_T} {fl : List FK} {own : String} {r : Int} {h0 : Mem} (hd : decode (mC M) pc = .ok (.invokevirtual idx, 3)) (ho' : (mY M).cls = own) (hL : VLk own idx M' 4) (hfit : rfit M' M) (hc : kd[x]? = some (.inl (ci, fl))) (hci : vwCl[ci]? = some ((mY M').cls, T, N)) (hst : (st.map catv).sum ≤ 8) (hcn : Cn M' (vr x :: [v1, v2, v3, v4]) h (fun r' h' => r' = some (vi r) ∧ h' = h0)) (kk : E M SX Q (pc + 3) ls (vi r :: st) h0) : E M SX Q pc ls (v4 :: v3 :: v2 :: v1 :: vr x :: st) h := e_callV (av := [v1, v2, v3, v4]) hd ho' hL rfl hfit hc hci hst hcn kk
theorem e_callS4i {v1 v2 v3 v4 : MV} {idx : Nat} {own : String} {r : Int} {h0 : Mem} (hd : decode (mC M) pc = .ok (.invokestatic idx, 3)) (ho' : (mY M).cls = own) (hL : SLk own idx M' 4) (hfit : rfit M' M) (hst : (st.map catv).sum ≤ 8) (hcn : Cn M' [v1, v2, v3, v4] h (fun r' h' => r' = some (vi r) ∧ h' = h0)) (kk : E M SX Q (pc + 3) ls (vi r :: st) h0) : E M SX Q pc ls (v4 :: v3 :: v2 :: v1 :: st) h := e_callS (av := [v1, v2, v3, v4]) hd ho' hL rfl hfit hst hcn kk
theorem e_callV4l {v1 v2 v3 v4 : MV} {x idx ci N : Nat} {T : u_T} {fl : List FK} {own : String} {r : Int} {h0 : Mem} (hd : decode (mC M) pc = .ok (.invokevirtual idx, 3)) (ho' : (mY M).cls = own) (hL : VLk own idx M' 4) (hfit : rfit M' M) (hc : kd[x]? = some (.inl (ci, fl))) (hci : vwCl[ci]? = some ((mY M').cls, T, N)) (hst : (st.map catv).sum ≤ 8) (hcn : Cn M' (vr x :: [v1, v2, v3, v4]) h (fun r' h' => r' = some (vl r) ∧ h' = h0)) (kk : E M SX Q (pc + 3) ls (vl r :: st) h0) : E M SX Q pc ls (v4 :: v3 :: v2 :: v1 :: vr x :: st) h := e_callV (av := [v1, v2, v3, v4]) hd ho' hL rfl hfit hc hci hst hcn kk
theorem e_callS4l {v1 v2 v3 v4 : MV} {idx : Nat} {own : String} {r : Int} {h0 : Mem} (hd : decode (mC M) pc = .ok (.invokestatic idx, 3)) (ho' : (mY M).cls = own) (hL : SLk own idx M' 4) (hfit : rfit M' M) (hst : (st.map catv).sum ≤ 8) (hcn : Cn M' [v1, v2, v3, v4] h (fun r' h' => r' = some (vl r) ∧ h' = h0)) (kk : E M SX Q (pc + 3) ls (vl r :: st) h0) : E M SX Q pc ls (v4 :: v3 :: v2 :: v1 :: st) h := e_callS (av := [v1, v2, v3, v4]) hd ho' hL rfl hfit hst hcn kk
theorem e_callV4v {v1 v2 v3 v4 : MV} {x idx ci N : Nat} {T : u_T} {fl : List FK} {own : String} {h0 : Mem} (hd : decode (mC M) pc = .ok (.invokevirtual idx, 3)) (ho' : (mY M).cls = own) (hL : VLk own idx M' 4) (hfit : rfit M' M) (hc : kd[x]? = some (.inl (ci, fl))) (hci : vwCl[ci]? = some ((mY M').cls, T, N)) (hst : (st.map catv).sum ≤ 8) (hcn : Cn M' (vr x :: [v1, v2, v3, v4]) h (fun r' h' => r' = none ∧ h' = h0)) (kk : E M SX Q (pc + 3) ls (st) h0) : E M SX Q pc ls (v4 :: v3 :: v2 :: v1 :: vr x :: st) h := e_callV (av := [v1, v2, v3, v4]) hd ho' hL rfl hfit hc hci hst hcn kk
theorem e_callS4v {v1 v2 v3 v4 : MV} {idx : Nat} {own : String} {h0 : Mem} (hd : decode (mC M) pc = .ok (.invokestatic idx, 3)) (ho' : (mY M).cls = own) (hL : SLk own idx M' 4) (hfit : rfit M' M) (hst : (st.map catv).sum ≤ 8) (hcn : Cn M' [v1, v2, v3, v4] h (fun r' h' => r' = none ∧ h' = h0)) (kk : E M SX Q (pc + 3) ls (st) h0) : E M SX Q pc ls (v4 :: v3 :: v2 :: v1 :: st) h := e_callS (av := [v1, v2, v3, v4]) hd ho' hL rfl hfit hst hcn kk
theorem e_callV5i {v1 v2 v3 v4 v5 : MV} {x idx ci N : Nat} {T : u_T} {fl : List FK} {own : String} {r : Int} {h0 : Mem} (hd : decode (mC M) pc = .ok (.invokevirtual idx, 3)) (ho' : (mY M).cls = own) (hL : VLk own idx M' 5) (hfit : rfit M' M) (hc : kd[x]? = some (.inl (ci, fl))) (hci : vwCl[ci]? = some ((mY M').cls, T, N)) (hst : (st.map catv).sum ≤ 8) (hcn : Cn M' (vr x :: [v1, v2, v3, v4, v5]) h (fun r' h' => r' = some (vi r) ∧ h' = h0)) (kk : E M SX Q (pc + 3) ls (vi r :: st) h0) : E M SX Q pc ls (v5 :: v4 :: v3 :: v2 :: v1 :: vr x :: st) h := e_callV (av := [v1, v2, v3, v4, v5]) hd ho' hL rfl hfit hc hci hst hcn kk
theorem e_callS5i {v1 v2 v3 v4 v5 : MV} {idx : Nat} {own : String} {r : Int} {h0 : Mem} (hd : decode (mC M) pc = .ok (.invokestatic idx, 3)) (ho' : (mY M).cls = own) (hL : SLk own idx M' 5) (hfit : rfit M' M) (hst : (st.map catv).sum ≤ 8) (hcn : Cn M' [v1, v2, v3, v4, v5] h (fun r' h' => r' = some (vi r) ∧ h' = h0)) (kk : E M SX Q (pc + 3) ls (vi r :: st) h0) : E M SX Q pc ls (v5 :: v4 :: v3 :: v2 :: v1 :: st) h := e_callS (av := [v1, v2, v3, v4, v5]) hd ho' hL rfl hfit hst hcn kk
theorem e_callV5v {v1 v2 v3 v4 v5 : MV} {x idx ci N : Nat} {T : u_T} {fl : List FK} {own : String} {h0 : Mem} (hd : decode (mC M) pc = .ok (.invokevirtual idx, 3)) (ho' : (mY M).cls = own) (hL : VLk own idx M' 5) (hfit : rfit M' M) (hc : kd[x]? = some (.inl (ci, fl))) (hci : vwCl[ci]? = some ((mY M').cls, T, N)) (hst : (st.map catv).sum ≤ 8) (hcn : Cn M' (vr x :: [v1, v2, v3, v4, v5]) h (fun r' h' => r' = none ∧ h' = h0)) (kk : E M SX Q (pc + 3) ls (st) h0) : E M SX Q pc ls (v5 :: v4 :: v3 :: v2 :: v1 :: vr x :: st) h := e_callV (av := [v1, v2, v3, v4, v5]) hd ho' hL rfl hfit hc hci hst hcn kk
theorem e_callS5v {v1 v2 v3 v4 v5 : MV} {idx : Nat} {own : String} {h0 : Mem} (hd : decode (mC M) pc = .ok (.invokestatic idx, 3)) (ho' : (mY M).cls = own) (hL : SLk own idx M' 5) (hfit : rfit M' M) (hst : (st.map catv).sum ≤ 8) (hcn : Cn M' [v1, v2, v3, v4, v5] h (fun r' h' => r' = none ∧ h' = h0)) (kk : E M SX Q (pc + 3) ls (st) h0) : E M SX Q pc ls (v5 :: v4 :: v3 :: v2 :: v1 :: st) h := e_callS (av := [v1, v2, v3, v4, v5]) hd ho' hL rfl hfit hst hcn kk
theorem e_callV6i {v1 v2 v3 v4 v5 v6 : MV} {x idx ci N : Nat} {T : u_T} {fl : List FK} {own : String} {r : Int} {h0 : Mem} (hd : decode (mC M) pc = .ok (.invokevirtual idx, 3)) (ho' : (mY M).cls = own) (hL : VLk own idx M' 6) (hfit : rfit M' M) (hc : kd[x]? = some (.inl (ci, fl))) (hci : vwCl[ci]? = some ((mY M').cls, T, N)) (hst : (st.map catv).sum ≤ 8) (hcn : Cn M' (vr x :: [v1, v2, v3, v4, v5, v6]) h (fun r' h' => r' = some (vi r) ∧ h' = h0)) (kk : E M SX Q (pc + 3) ls (vi r :: st) h0) : E M SX Q pc ls (v6 :: v5 :: v4 :: v3 :: v2 :: v1 :: vr x :: st) h := e_callV (av := [v1, v2, v3, v4, v5, v6]) hd ho' hL rfl hfit hc hci hst hcn kk
theorem e_callS6i {v1 v2 v3 v4 v5 v6 : MV} {idx : Nat} {own : String} {r : Int} {h0 : Mem} (hd : decode (mC M) pc = .ok (.invokestatic idx, 3)) (ho' : (mY M).cls = own) (hL : SLk own idx M' 6) (hfit : rfit M' M) (hst : (st.map catv).sum ≤ 8) (hcn : Cn M' [v1, v2, v3, v4, v5, v6] h (fun r' h' => r' = some (vi r) ∧ h' = h0)) (kk : E M SX Q (pc + 3) ls (vi r :: st) h0) : E M SX Q pc ls (v6 :: v5 :: v4 :: v3 :: v2 :: v1 :: st) h := e_callS (av := [v1, v2, v3, v4, v5, v6]) hd ho' hL rfl hfit hst hcn kk
theorem e_callV6v {v1 v2 v3 v4 v5 v6 : MV} {x idx ci N : Nat} {T : u_T} {fl : List FK} {own : String} {h0 : Mem} (hd : decode (mC M) pc = .ok (.invokevirtual idx, 3)) (ho' : (mY M).cls = own) (hL : VLk own idx M' 6) (hfit : rfit M' M) (hc : kd[x]? = some (.inl (ci, fl))) (hci : vwCl[ci]? = some ((mY M').cls, T, N)) (hst : (st.map catv).sum ≤ 8) (hcn : Cn M' (vr x :: [v1, v2, v3, v4, v5, v6]) h (fun r' h' => r' = none ∧ h' = h0)) (kk : E M SX Q (pc + 3) ls (st) h0) : E M SX Q pc ls (v6 :: v5 :: v4 :: v3 :: v2 :: v1 :: vr x :: st) h := e_callV (av := [v1, v2, v3, v4, v5, v6]) hd ho' hL rfl hfit hc hci hst hcn kk
theorem e_callS6v {v1 v2 v3 v4 v5 v6 : MV} {idx : Nat} {own : String} {h0 : Mem} (hd : decode (mC M) pc = .ok (.invokestatic idx, 3)) (ho' : (mY M).cls = own) (hL : SLk own idx M' 6) (hfit : rfit M' M) (hst : (st.map catv).sum ≤ 8) (hcn : Cn M' [v1, v2, v3, v4, v5, v6] h (fun r' h' => r' = none ∧ h' = h0)) (kk : E M SX Q (pc + 3) ls (st) h0) : E M SX Q pc ls (v6 :: v5 :: v4 :: v3 :: v2 :: v1 :: st) h := e_callS (av := [v1, v2, v3, v4, v5, v6]) hd ho' hL rfl hfit hst hcn kk
end EP
theorem fl_142 : FLk false "StarRight$Acts" 15 0 1 := ⟨RX0, TX0, 4, rfl, by decide, tu_0, tw_142⟩
theorem fl_144 : FLk false "StarRight$Acts" 18 0 2 := ⟨RX0, TX0, 4, rfl, by decide, tu_0, tw_144⟩
theorem fl_146 : FLk false "StarRight$Acts" 21 0 3 := ⟨RX0, TX0, 4, rfl, by decide, tu_0, tw_146⟩
theorem fl_140 : FLk false "StarRight$Acts" 9 0 0 := ⟨RX0, TX0, 4, rfl, by decide, tu_0, tw_140⟩
theorem fl_184 : FLk false "StarRight$Contest" 11 1 0 := ⟨RX1, TX1, 2, rfl, by decide, tu_1, tw_184⟩
theorem fl_185 : FLk false "StarRight$Contest" 15 1 1 := ⟨RX1, TX1, 2, rfl, by decide, tu_1, tw_185⟩
theorem fl_125 : FLk false "StarRight$Sight" 15 2 1 := ⟨RX2, TX2, 3, rfl, by decide, tu_2, tw_125⟩
theorem fl_126 : FLk false "StarRight$Sight" 18 2 2 := ⟨RX2, TX2, 3, rfl, by decide, tu_2, tw_126⟩
theorem fl_51 : FLk true "StarRight$Sight" 38 4 3 := ⟨RX4, TX4, 4, rfl, by decide, tu_4, ⟨_, tn_51⟩⟩
theorem fl_84 : FLk true "StarRight$Sight" 62 6 7 := ⟨RX6, TX6, 8, rfl, by decide, tu_6, ⟨_, tn_84⟩⟩
theorem fl_81 : FLk true "StarRight$Sight" 66 6 6 := ⟨RX6, TX6, 8, rfl, by decide, tu_6, ⟨_, tn_81⟩⟩
theorem fl_124 : FLk false "StarRight$Sight" 9 2 0 := ⟨RX2, TX2, 3, rfl, by decide, tu_2, tw_124⟩
theorem fl_45 : FLk false "StarRight$Stars" 15 4 1 := ⟨RX4, TX4, 4, rfl, by decide, tu_4, tw_45⟩
theorem fl_47 : FLk false "StarRight$Stars" 18 4 2 := ⟨RX4, TX4, 4, rfl, by decide, tu_4, tw_47⟩
theorem fl_49 : FLk false "StarRight$Stars" 21 4 3 := ⟨RX4, TX4, 4, rfl, by decide, tu_4, tw_49⟩
theorem fl_44 : FLk false "StarRight$Stars" 9 4 0 := ⟨RX4, TX4, 4, rfl, by decide, tu_4, tw_44⟩
theorem fl_30 : FLk false "StarRight$Text" 15 5 1 := ⟨RX5, TX5, 2, rfl, by decide, tu_5, tw_30⟩
theorem fl_29 : FLk false "StarRight$Text" 9 5 0 := ⟨RX5, TX5, 2, rfl, by decide, tu_5, tw_29⟩
theorem fl_69 : FLk false "StarRight$Town" 15 6 1 := ⟨RX6, TX6, 8, rfl, by decide, tu_6, tw_69⟩
theorem fl_71 : FLk false "StarRight$Town" 18 6 2 := ⟨RX6, TX6, 8, rfl, by decide, tu_6, tw_71⟩
theorem fl_73 : FLk false "StarRight$Town" 21 6 3 := ⟨RX6, TX6, 8, rfl, by decide, tu_6, tw_73⟩
theorem fl_75 : FLk false "StarRight$Town" 24 6 4 := ⟨RX6, TX6, 8, rfl, by decide, tu_6, tw_75⟩
theorem fl_77 : FLk false "StarRight$Town" 28 6 5 := ⟨RX6, TX6, 8, rfl, by decide, tu_6, tw_77⟩
theorem fl_79 : FLk false "StarRight$Town" 31 6 6 := ⟨RX6, TX6, 8, rfl, by decide, tu_6, tw_79⟩
theorem fl_82 : FLk false "StarRight$Town" 34 6 7 := ⟨RX6, TX6, 8, rfl, by decide, tu_6, tw_82⟩
theorem fl_67 : FLk false "StarRight$Town" 9 6 0 := ⟨RX6, TX6, 8, rfl, by decide, tu_6, tw_67⟩
theorem fl_164 : FLk false "StarRight$Watch" 15 7 1 := ⟨RX7, TX7, 4, rfl, by decide, tu_7, tw_164⟩
theorem fl_165 : FLk false "StarRight$Watch" 18 7 2 := ⟨RX7, TX7, 4, rfl, by decide, tu_7, tw_165⟩
theorem fl_166 : FLk false "StarRight$Watch" 22 7 3 := ⟨RX7, TX7, 4, rfl, by decide, tu_7, tw_166⟩
theorem fl_163 : FLk false "StarRight$Watch" 9 7 0 := ⟨RX7, TX7, 4, rfl, by decide, tu_7, tw_163⟩
theorem fl_202 : FLk false "StarRight" 101 8 11 := ⟨RX8, TX8, 13, rfl, by decide, tu_8, tw_202⟩
theorem fl_76 : FLk true "StarRight" 108 6 4 := ⟨RX6, TX6, 8, rfl, by decide, tu_6, ⟨_, tn_76⟩⟩
theorem fl_50 : FLk true "StarRight" 111 4 3 := ⟨RX4, TX4, 4, rfl, by decide, tu_4, ⟨_, tn_50⟩⟩
theorem fl_80 : FLk true "StarRight" 114 6 6 := ⟨RX6, TX6, 8, rfl, by decide, tu_6, ⟨_, tn_80⟩⟩
theorem fl_83 : FLk true "StarRight" 117 6 7 := ⟨RX6, TX6, 8, rfl, by decide, tu_6, ⟨_, tn_83⟩⟩
theorem fl_191 : FLk false "StarRight" 12 8 0 := ⟨RX8, TX8, 13, rfl, by decide, tu_8, tw_191⟩
theorem fl_78 : FLk true "StarRight" 120 6 5 := ⟨RX6, TX6, 8, rfl, by decide, tu_6, ⟨_, tn_78⟩⟩
theorem fl_147 : FLk true "StarRight" 126 0 3 := ⟨RX0, TX0, 4, rfl, by decide, tu_0, ⟨_, tn_147⟩⟩
theorem fl_167 : FLk true "StarRight" 127 7 3 := ⟨RX7, TX7, 4, rfl, by decide, tu_7, ⟨_, tn_167⟩⟩
theorem fl_31 : FLk true "StarRight" 128 5 1 := ⟨RX5, TX5, 2, rfl, by decide, tu_5, ⟨_, tn_31⟩⟩
theorem fl_68 : FLk true "StarRight" 135 6 0 := ⟨RX6, TX6, 8, rfl, by decide, tu_6, ⟨_, tn_68⟩⟩
theorem fl_70 : FLk true "StarRight" 138 6 1 := ⟨RX6, TX6, 8, rfl, by decide, tu_6, ⟨_, tn_70⟩⟩
theorem fl_72 : FLk true "StarRight" 141 6 2 := ⟨RX6, TX6, 8, rfl, by decide, tu_6, ⟨_, tn_72⟩⟩
theorem fl_46 : FLk true "StarRight" 166 4 1 := ⟨RX4, TX4, 4, rfl, by decide, tu_4, ⟨_, tn_46⟩⟩
theorem fl_48 : FLk true "StarRight" 169 4 2 := ⟨RX4, TX4, 4, rfl, by decide, tu_4, ⟨_, tn_48⟩⟩
theorem fl_74 : FLk true "StarRight" 179 6 3 := ⟨RX6, TX6, 8, rfl, by decide, tu_6, ⟨_, tn_74⟩⟩
theorem fl_192 : FLk false "StarRight" 19 8 1 := ⟨RX8, TX8, 13, rfl, by decide, tu_8, tw_192⟩
theorem fl_143 : FLk true "StarRight" 202 0 1 := ⟨RX0, TX0, 4, rfl, by decide, tu_0, ⟨_, tn_143⟩⟩
theorem fl_141 : FLk true "StarRight" 205 0 0 := ⟨RX0, TX0, 4, rfl, by decide, tu_0, ⟨_, tn_141⟩⟩
theorem fl_145 : FLk true "StarRight" 208 0 2 := ⟨RX0, TX0, 4, rfl, by decide, tu_0, ⟨_, tn_145⟩⟩
theorem fl_193 : FLk false "StarRight" 26 8 2 := ⟨RX8, TX8, 13, rfl, by decide, tu_8, tw_193⟩
theorem fl_194 : FLk false "StarRight" 30 8 3 := ⟨RX8, TX8, 13, rfl, by decide, tu_8, tw_194⟩
theorem fl_203 : FLk false "StarRight" 306 8 12 := ⟨RX8, TX8, 13, rfl, by decide, tu_8, tw_203⟩
theorem fl_111 : FLk true "StarRight" 323 3 0 := ⟨RX3, TX3, 2, rfl, by decide, tu_3, ⟨_, tn_111⟩⟩
theorem fl_195 : FLk false "StarRight" 36 8 4 := ⟨RX8, TX8, 13, rfl, by decide, tu_8, tw_195⟩
theorem fl_196 : FLk false "StarRight" 40 8 5 := ⟨RX8, TX8, 13, rfl, by decide, tu_8, tw_196⟩
theorem fl_197 : FLk false "StarRight" 46 8 6 := ⟨RX8, TX8, 13, rfl, by decide, tu_8, tw_197⟩
theorem fl_198 : FLk false "StarRight" 53 8 7 := ⟨RX8, TX8, 13, rfl, by decide, tu_8, tw_198⟩
theorem fl_199 : FLk false "StarRight" 60 8 8 := ⟨RX8, TX8, 13, rfl, by decide, tu_8, tw_199⟩
theorem fl_200 : FLk false "StarRight" 67 8 9 := ⟨RX8, TX8, 13, rfl, by decide, tu_8, tw_200⟩
theorem fl_201 : FLk false "StarRight" 71 8 10 := ⟨RX8, TX8, 13, rfl, by decide, tu_8, tw_201⟩
theorem fl_112 : FLk true "StarRight" 94 3 1 := ⟨RX3, TX3, 2, rfl, by decide, tu_3, ⟨_, tn_112⟩⟩
theorem fl_693 : FLk false "StarRightModel" 103 9 11 := ⟨RX9, TX9, 37, rfl, by decide, tu_9, tw_693⟩
theorem fl_686 : FLk false "StarRightModel" 113 9 4 := ⟨RX9, TX9, 37, rfl, by decide, tu_9, tw_686⟩
theorem fl_701 : FLk false "StarRightModel" 116 9 19 := ⟨RX9, TX9, 37, rfl, by decide, tu_9, tw_701⟩
theorem fl_689 : FLk false "StarRightModel" 13 9 7 := ⟨RX9, TX9, 37, rfl, by decide, tu_9, tw_689⟩
theorem fl_704 : FLk false "StarRightModel" 148 9 22 := ⟨RX9, TX9, 37, rfl, by decide, tu_9, tw_704⟩
theorem fl_690 : FLk false "StarRightModel" 16 9 8 := ⟨RX9, TX9, 37, rfl, by decide, tu_9, tw_690⟩
theorem fl_717 : FLk false "StarRightModel" 178 9 35 := ⟨RX9, TX9, 37, rfl, by decide, tu_9, tw_717⟩
theorem fl_718 : FLk false "StarRightModel" 181 9 36 := ⟨RX9, TX9, 37, rfl, by decide, tu_9, tw_718⟩
theorem fl_691 : FLk false "StarRightModel" 19 9 9 := ⟨RX9, TX9, 37, rfl, by decide, tu_9, tw_691⟩
theorem fl_715 : FLk false "StarRightModel" 201 9 33 := ⟨RX9, TX9, 37, rfl, by decide, tu_9, tw_715⟩
theorem fl_716 : FLk false "StarRightModel" 204 9 34 := ⟨RX9, TX9, 37, rfl, by decide, tu_9, tw_716⟩
theorem fl_713 : FLk false "StarRightModel" 211 9 31 := ⟨RX9, TX9, 37, rfl, by decide, tu_9, tw_713⟩
theorem fl_714 : FLk false "StarRightModel" 214 9 32 := ⟨RX9, TX9, 37, rfl, by decide, tu_9, tw_714⟩
theorem fl_692 : FLk false "StarRightModel" 22 9 10 := ⟨RX9, TX9, 37, rfl, by decide, tu_9, tw_692⟩
theorem fl_711 : FLk false "StarRightModel" 221 9 29 := ⟨RX9, TX9, 37, rfl, by decide, tu_9, tw_711⟩
theorem fl_712 : FLk false "StarRightModel" 224 9 30 := ⟨RX9, TX9, 37, rfl, by decide, tu_9, tw_712⟩
theorem fl_708 : FLk false "StarRightModel" 236 9 26 := ⟨RX9, TX9, 37, rfl, by decide, tu_9, tw_708⟩
theorem fl_696 : FLk false "StarRightModel" 25 9 14 := ⟨RX9, TX9, 37, rfl, by decide, tu_9, tw_696⟩
theorem fl_697 : FLk false "StarRightModel" 28 9 15 := ⟨RX9, TX9, 37, rfl, by decide, tu_9, tw_697⟩
theorem fl_698 : FLk false "StarRightModel" 31 9 16 := ⟨RX9, TX9, 37, rfl, by decide, tu_9, tw_698⟩
theorem fl_699 : FLk false "StarRightModel" 34 9 17 := ⟨RX9, TX9, 37, rfl, by decide, tu_9, tw_699⟩
theorem fl_700 : FLk false "StarRightModel" 37 9 18 := ⟨RX9, TX9, 37, rfl, by decide, tu_9, tw_700⟩
theorem fl_702 : FLk false "StarRightModel" 40 9 20 := ⟨RX9, TX9, 37, rfl, by decide, tu_9, tw_702⟩
theorem fl_703 : FLk false "StarRightModel" 43 9 21 := ⟨RX9, TX9, 37, rfl, by decide, tu_9, tw_703⟩
theorem fl_705 : FLk false "StarRightModel" 47 9 23 := ⟨RX9, TX9, 37, rfl, by decide, tu_9, tw_705⟩
theorem fl_706 : FLk false "StarRightModel" 50 9 24 := ⟨RX9, TX9, 37, rfl, by decide, tu_9, tw_706⟩
theorem fl_707 : FLk false "StarRightModel" 53 9 25 := ⟨RX9, TX9, 37, rfl, by decide, tu_9, tw_707⟩
theorem fl_709 : FLk false "StarRightModel" 56 9 27 := ⟨RX9, TX9, 37, rfl, by decide, tu_9, tw_709⟩
theorem fl_710 : FLk false "StarRightModel" 59 9 28 := ⟨RX9, TX9, 37, rfl, by decide, tu_9, tw_710⟩
theorem fl_687 : FLk false "StarRightModel" 66 9 5 := ⟨RX9, TX9, 37, rfl, by decide, tu_9, tw_687⟩
theorem fl_683 : FLk false "StarRightModel" 7 9 1 := ⟨RX9, TX9, 37, rfl, by decide, tu_9, tw_683⟩
theorem fl_688 : FLk false "StarRightModel" 73 9 6 := ⟨RX9, TX9, 37, rfl, by decide, tu_9, tw_688⟩
theorem fl_684 : FLk false "StarRightModel" 78 9 2 := ⟨RX9, TX9, 37, rfl, by decide, tu_9, tw_684⟩
theorem fl_685 : FLk false "StarRightModel" 81 9 3 := ⟨RX9, TX9, 37, rfl, by decide, tu_9, tw_685⟩
theorem fl_694 : FLk false "StarRightModel" 84 9 12 := ⟨RX9, TX9, 37, rfl, by decide, tu_9, tw_694⟩
theorem fl_695 : FLk false "StarRightModel" 95 9 13 := ⟨RX9, TX9, 37, rfl, by decide, tu_9, tw_695⟩
theorem fp_146 : FPk "StarRight$Acts" 21 0 3 0 false := ⟨RX0, TX0, 4, tyX0, rfl, by decide, tu_0, tyX0_ok, nmX0, rfl, by decide +kernel, tw_146⟩
theorem fp_49 : FPk "StarRight$Stars" 21 4 3 0 false := ⟨RX4, TX4, 4, tyX4, rfl, by decide, tu_4, tyX4_ok, nmX4, rfl, by decide +kernel, tw_49⟩
theorem fp_30 : FPk "StarRight$Text" 15 5 1 0 false := ⟨RX5, TX5, 2, tyX5, rfl, by decide, tu_5, tyX5_ok, nmX5, rfl, by decide +kernel, tw_30⟩
theorem fp_75 : FPk "StarRight$Town" 24 6 4 0 false := ⟨RX6, TX6, 8, tyX6, rfl, by decide, tu_6, tyX6_ok, nmX6, rfl, by decide +kernel, tw_75⟩
theorem fp_77 : FPk "StarRight$Town" 28 6 5 0 false := ⟨RX6, TX6, 8, tyX6, rfl, by decide, tu_6, tyX6_ok, nmX6, rfl, by decide +kernel, tw_77⟩
theorem fp_79 : FPk "StarRight$Town" 31 6 6 0 false := ⟨RX6, TX6, 8, tyX6, rfl, by decide, tu_6, tyX6_ok, nmX6, rfl, by decide +kernel, tw_79⟩
theorem fp_82 : FPk "StarRight$Town" 34 6 7 2 false := ⟨RX6, TX6, 8, tyX6, rfl, by decide, tu_6, tyX6_ok, nmX6, rfl, by decide +kernel, tw_82⟩
theorem fp_166 : FPk "StarRight$Watch" 22 7 3 0 false := ⟨RX7, TX7, 4, tyX7, rfl, by decide, tu_7, tyX7_ok, nmX7, rfl, by decide +kernel, tw_166⟩
theorem fp_202 : FPk "StarRight" 101 8 11 0 false := ⟨RX8, TX8, 13, tyX8, rfl, by decide, tu_8, tyX8_ok, nmX8, rfl, by decide +kernel, tw_202⟩
theorem fp_80 : FPk "StarRight" 114 6 6 0 true := ⟨RX6, TX6, 8, tyX6, rfl, by decide, tu_6, tyX6_ok, nmX6, rfl, by decide +kernel, ⟨_, tn_80⟩⟩
theorem fp_83 : FPk "StarRight" 117 6 7 2 true := ⟨RX6, TX6, 8, tyX6, rfl, by decide, tu_6, tyX6_ok, nmX6, rfl, by decide +kernel, ⟨_, tn_83⟩⟩
theorem fp_78 : FPk "StarRight" 120 6 5 0 true := ⟨RX6, TX6, 8, tyX6, rfl, by decide, tu_6, tyX6_ok, nmX6, rfl, by decide +kernel, ⟨_, tn_78⟩⟩
theorem fp_203 : FPk "StarRight" 306 8 12 1 false := ⟨RX8, TX8, 13, tyX8, rfl, by decide, tu_8, tyX8_ok, nmX8, rfl, by decide +kernel, tw_203⟩
theorem fp_112 : FPk "StarRight" 94 3 1 2 true := ⟨RX3, TX3, 2, tyX3, rfl, by decide, tu_3, tyX3_ok, nmX3, rfl, by decide +kernel, ⟨_, tn_112⟩⟩
theorem fp_693 : FPk "StarRightModel" 103 9 11 0 false := ⟨RX9, TX9, 37, tyX9, rfl, by decide, tu_9, tyX9_ok, nmX9, rfl, by decide +kernel, tw_693⟩
theorem fp_686 : FPk "StarRightModel" 113 9 4 0 false := ⟨RX9, TX9, 37, tyX9, rfl, by decide, tu_9, tyX9_ok, nmX9, rfl, by decide +kernel, tw_686⟩
theorem fp_701 : FPk "StarRightModel" 116 9 19 0 false := ⟨RX9, TX9, 37, tyX9, rfl, by decide, tu_9, tyX9_ok, nmX9, rfl, by decide +kernel, tw_701⟩
theorem fp_704 : FPk "StarRightModel" 148 9 22 0 false := ⟨RX9, TX9, 37, tyX9, rfl, by decide, tu_9, tyX9_ok, nmX9, rfl, by decide +kernel, tw_704⟩
theorem fp_717 : FPk "StarRightModel" 178 9 35 0 false := ⟨RX9, TX9, 37, tyX9, rfl, by decide, tu_9, tyX9_ok, nmX9, rfl, by decide +kernel, tw_717⟩
theorem fp_718 : FPk "StarRightModel" 181 9 36 0 false := ⟨RX9, TX9, 37, tyX9, rfl, by decide, tu_9, tyX9_ok, nmX9, rfl, by decide +kernel, tw_718⟩
theorem fp_715 : FPk "StarRightModel" 201 9 33 0 false := ⟨RX9, TX9, 37, tyX9, rfl, by decide, tu_9, tyX9_ok, nmX9, rfl, by decide +kernel, tw_715⟩
theorem fp_716 : FPk "StarRightModel" 204 9 34 0 false := ⟨RX9, TX9, 37, tyX9, rfl, by decide, tu_9, tyX9_ok, nmX9, rfl, by decide +kernel, tw_716⟩
theorem fp_713 : FPk "StarRightModel" 211 9 31 0 false := ⟨RX9, TX9, 37, tyX9, rfl, by decide, tu_9, tyX9_ok, nmX9, rfl, by decide +kernel, tw_713⟩
theorem fp_714 : FPk "StarRightModel" 214 9 32 0 false := ⟨RX9, TX9, 37, tyX9, rfl, by decide, tu_9, tyX9_ok, nmX9, rfl, by decide +kernel, tw_714⟩
theorem fp_711 : FPk "StarRightModel" 221 9 29 0 false := ⟨RX9, TX9, 37, tyX9, rfl, by decide, tu_9, tyX9_ok, nmX9, rfl, by decide +kernel, tw_711⟩
theorem fp_712 : FPk "StarRightModel" 224 9 30 0 false := ⟨RX9, TX9, 37, tyX9, rfl, by decide, tu_9, tyX9_ok, nmX9, rfl, by decide +kernel, tw_712⟩
theorem fp_708 : FPk "StarRightModel" 236 9 26 1 false := ⟨RX9, TX9, 37, tyX9, rfl, by decide, tu_9, tyX9_ok, nmX9, rfl, by decide +kernel, tw_708⟩
theorem fp_682 : FPk "StarRightModel" 62 9 0 0 false := ⟨RX9, TX9, 37, tyX9, rfl, by decide, tu_9, tyX9_ok, nmX9, rfl, by decide +kernel, tw_682⟩
theorem fp_687 : FPk "StarRightModel" 66 9 5 0 false := ⟨RX9, TX9, 37, tyX9, rfl, by decide, tu_9, tyX9_ok, nmX9, rfl, by decide +kernel, tw_687⟩
theorem fp_688 : FPk "StarRightModel" 73 9 6 0 false := ⟨RX9, TX9, 37, tyX9, rfl, by decide, tu_9, tyX9_ok, nmX9, rfl, by decide +kernel, tw_688⟩
theorem fp_684 : FPk "StarRightModel" 78 9 2 0 false := ⟨RX9, TX9, 37, tyX9, rfl, by decide, tu_9, tyX9_ok, nmX9, rfl, by decide +kernel, tw_684⟩
theorem fp_685 : FPk "StarRightModel" 81 9 3 0 false := ⟨RX9, TX9, 37, tyX9, rfl, by decide, tu_9, tyX9_ok, nmX9, rfl, by decide +kernel, tw_685⟩
theorem fp_694 : FPk "StarRightModel" 84 9 12 0 false := ⟨RX9, TX9, 37, tyX9, rfl, by decide, tu_9, tyX9_ok, nmX9, rfl, by decide +kernel, tw_694⟩
theorem fp_695 : FPk "StarRightModel" 95 9 13 0 false := ⟨RX9, TX9, 37, tyX9, rfl, by decide, tu_9, tyX9_ok, nmX9, rfl, by decide +kernel, tw_695⟩
