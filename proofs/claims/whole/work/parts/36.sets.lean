/-! ===== sets of roofs; starless, hold ===== -/
noncomputable def fromF {β : Type} (P : Nat → Prop) (r : Nat → β) (r0 : β) : Nat → Nat → β
  | 0, _ => r0
  | d + 1, k => @ite β (P k) (Classical.propDecidable _) (r k) (fromF P r r0 d (k + 1))
theorem fromF_t {β : Type} {P : Nat → Prop} {r : Nat → β} {r0 : β} {d k : Nat} (h : P k) : fromF P r r0 (d + 1) k = r k := if_pos h
theorem fromF_f {β : Type} {P : Nat → Prop} {r : Nat → β} {r0 : β} {d k : Nat} (h : ¬ P k) : fromF P r r0 (d + 1) k = fromF P r r0 d (k + 1) := if_neg h
theorem fromF_c {β : Type} {P Q : Nat → Prop} {r : Nat → β} {r0 : β} : ∀ (d k : Nat), (∀ j, k ≤ j → j < k + d → (P j ↔ Q j)) → fromF P r r0 d k = fromF Q r r0 d k
  | 0, _, _ => rfl
  | d + 1, k, h => by
    have ih := fromF_c (r := r) (r0 := r0) d (k + 1) (fun j h1 h2 => h j (by omega) (by omega))
    have hk := h k (by omega) (by omega)
    by_cases q : P k
    · rw [fromF_t q, fromF_t (hk.mp q)]
    · rw [fromF_f q, fromF_f (fun z => q (hk.mpr z)), ih]
theorem loop_first {β : Type} (L : Nat → Int → β) (n : Nat) (P : Nat → Prop) (r : Nat → β) (r0 : β) (hs : ∀ (f k : Nat), k < n → ¬ P k → L (f + 1) (k : Int) = L f ((k : Int) + 1)) (hp : ∀ (f k : Nat), k < n → P k → L (f + 1) (k : Int) = r k) (he : ∀ f : Nat, L (f + 1) (n : Int) = r0) :
    ∀ (f k : Nat), k ≤ n → n - k < f → L f (k : Int) = fromF P r r0 (n - k) k := by
  intro f
  induction f with
  | zero => intro k h1 h2; omega
  | succ f ih =>
    intro k h1 h2
    by_cases hk : k = n
    · subst hk
      rw [he f, Nat.sub_self]
      rfl
    · obtain ⟨d, hd⟩ : ∃ d, n - k = d + 1 := ⟨n - k - 1, by omega⟩
      rw [hd]
      by_cases q : P k
      · rw [hp f k (by omega) q, fromF_t q]
      · rw [hs f k (by omega) q, fromF_f q]
        have := ih (k + 1) (by omega) (by omega)
        rw [show n - (k + 1) = d by omega] at this
        exact this
theorem loop_x {A β : Type} (L : Nat → Int → A → β) (n : Nat) (I : Nat → A → Prop) (R : β → Prop) (hs : ∀ (f k : Nat) (a : A), k < n → I k a → (∃ a', I (k + 1) a' ∧ L (f + 1) (k : Int) a = L f ((k : Int) + 1) a') ∨ R (L (f + 1) (k : Int) a)) (he : ∀ (f : Nat) (a : A), I n a → R (L (f + 1) (n : Int) a)) :
    ∀ (f k : Nat) (a : A), k ≤ n → n - k < f → I k a → R (L f (k : Int) a) := by
  intro f
  induction f with
  | zero => intro k a h1 h2; omega
  | succ f ih =>
    intro k a h1 h2 hI
    by_cases hk : k = n
    · subst hk; exact he f a hI
    · rcases hs f k a (by omega) hI with ⟨a', i1, e1⟩ | q
      · rw [e1]
        exact ih (k + 1) a' (by omega) (by omega) i1
      · exact q
def pop (v : Nat) : Nat := v % 2 + v / 2 % 2 + v / 4 % 2 + v / 8 % 2 + v / 16 % 2
theorem pop_b (v : Nat) : pop v ≤ 5 := by unfold pop; omega
def mem0 : Mem := fun _ _ => 0
theorem j_many (h : Mem) {v : Nat} (hv : v < 32) : p_J6_bitCount_0f7a4 h (v : Int) = some ((pop v : Nat) : Int) := by
  have key : ∀ w : Nat, w < 32 → p_J6_bitCount_0f7a4 mem0 (w : Int) = some ((pop w : Nat) : Int) := by decide +kernel
  rw [← key v hv]
  unfold p_J6_bitCount_0f7a4 p_J6_bitCount_0f7a4_24 p_J6_bitCount_0f7a4_41
  rfl
theorem m_manyL (h g : Mem) : ∀ (f : Nat) (a b c : Int), p_X9_many_L4 h f a b c = p_X9_many_L4 g f a b c
  | 0, _, _, _ => rfl
  | f + 1, a, b, c => by
    simp only [p_X9_many_L4]
    unfold p_X9_many_4
    simp only [m_manyL h g f]
theorem m_many (h : Mem) {v : Nat} (hv : v < 32) : p_X9_many h (v : Int) = some ((pop v : Nat) : Int) := by
  have key : ∀ w : Nat, w < 32 → p_X9_many mem0 (w : Int) = some ((pop w : Nat) : Int) := by decide +kernel
  rw [← key v hv]
  exact m_manyL h mem0 300 _ _ _
def ns (n : Nat) : Nat := 2 ^ n
theorem AL_ns0 : ∀ n : Nat, n < 6 → AL n = ((ns n : Nat) : Int) - 1 ∧ 1 ≤ ns n ∧ ns n ≤ 32 := by decide +kernel
theorem AL_ns {n : Nat} (hn : n ≤ 5) : AL n = ((ns n : Nat) : Int) - 1 ∧ 1 ≤ ns n ∧ ns n ≤ 32 := AL_ns0 n (by omega)
theorem bb_ns0 : ∀ n : Nat, n < 6 → ∀ v : Nat, v < ns n → ∀ r : Nat, r < 32 → n ≤ r → bb (v : Int) r = false := by decide +kernel
theorem bb_ns {n : Nat} (hn : n ≤ 5) {v : Nat} (hv : v < ns n) : ∀ r, n ≤ r → r < 32 → bb (v : Int) r = false := fun r h1 h2 => bb_ns0 n (by omega) v hv r h2 h1
section SETS
variable {h h' : Mem} {n : Nat} {c H : Nat → Fin 10} {ow : Nat → Fin 4} {S sm : Int} {k : Nat} {ri : Nat → Fin 10} {sp : Nat → Fin 4} {wo : Nat → Fin 10} {law hr : Nat} {cl : Int}
/-- STARLESS -/
def SLP (n : Nat) (ow : Nat → Fin 4) (k : Nat) (hd : Nat → Nat → Int) (hr m o : Nat) : Prop := (∃ r, r < n ∧ (ow r).val = o) ∧ ∀ r, r < n → (ow r).val = o → ¬ ∃ s, s < k ∧ ∃ i, i < m ∧ hd s (hr + i) = (r : Int)
noncomputable def s_starless (n : Nat) (c H : Nat → Fin 10) (ow : Nat → Fin 4) (k : Nat) (ri : Nat → Fin 10) (sp : Nat → Fin 4) (law hr : Nat) (m : Int) : Int := if 1 ≤ m ∧ m ≤ 10 then fromF (SLP n ow k (HD n c H (AL n) law ri sp) hr m.toNat) (fun o => (o : Int)) (-9) 4 0 else -2
theorem fromF_map {β γ : Type} (P : Nat → Prop) (g : β → γ) (r : Nat → β) (r0 : β) : ∀ d k : Nat, fromF P (fun o => g (r o)) (g r0) d k = g (fromF P r r0 d k)
  | 0, _ => rfl
  | d + 1, k => by
    by_cases q : P k
    · rw [fromF_t q, fromF_t q]
    · rw [fromF_f q, fromF_f q, fromF_map P g r r0 d (k + 1)]
theorem x_starless (v : CV h n c H ow sm k ri sp wo law hr cl) (m : Int) : ∃ h', p_X8_starless h m = some (s_starless n c H ow k ri sp law hr m, h') ∧ Sc h h' := by
  unfold p_X8_starless s_starless
  rw [x_span]
  simp only [bd_s]
  by_cases q : 1 ≤ m ∧ m ≤ 10
  · rw [if01_t q, if_pos q]
    obtain ⟨m', rfl⟩ := toN (show 0 ≤ m by omega)
    simp only [Int.toNat_natCast]
    obtain ⟨h', e, sv⟩ := x_survey v
    have v' := v.sc sv.sc
    obtain ⟨v1, v2, v3, v4, v5, v6, v7⟩ := id v'
    have hn := v1.1
    rw [e, bd_n, v4]
    obtain ⟨w, ew, hw⟩ := t_holders sv hn v2 (fr := hr) (m := m') (by omega) (by omega)
    rw [ew, bd_n]
    refine ⟨h', ?_, sv.sc⟩
    rw [← fromF_map _ (fun o => some (o, h'))]
    refine loop_first (fun f i => p_X8_starless_L38 f h' w i) 4 (SLP n ow k (HD n c H (AL n) law ri sp) hr m') _ _ ?_ ?_ ?_ 300 0 (Nat.zero_le _) (by omega)
    · intro f o ho hP
      simp only [p_X8_starless_L38]
      unfold p_X8_starless_38
      rw [if_neg (by omega), t_roofsOf v1]
      simp only [bd_s]
      have fin : p_X8_starless_67 (fun h l2 l3 => p_X8_starless_L38 f h l2 l3) h' w (o : Int) = p_X8_starless_L38 f h' w ((o : Int) + 1) := by
        unfold p_X8_starless_67
        rw [wr_1 (by omega)]
      by_cases z : bset (fun r => ((ow r).val : Int) = (o : Int)) n = 0
      · rw [if_pos z]; exact fin
      · rw [if_neg z]
        rw [if_neg]
        · exact fin
        · intro y
          apply hP
          constructor
          · apply Classical.byContradiction
            intro x
            apply z
            exact bset_none (fun r hr' t => x ⟨r, hr', by omega⟩)
          · intro r hr' ho' x
            have := (and_z _ _).mp y r (by omega)
            rw [bb_bset _ (by omega) n (by omega), hw r (by omega)] at this
            exact this ⟨⟨hr', by omega⟩, x⟩
    · intro f o ho hP
      obtain ⟨⟨r, p1, p2⟩, p3⟩ := hP
      simp only [p_X8_starless_L38]
      unfold p_X8_starless_38
      rw [if_neg (by omega), t_roofsOf v1]
      simp only [bd_s]
      rw [if_neg, if_pos]
      · rw [and_z]
        intro i hi y
        rw [bb_bset _ hi n (by omega), hw i hi] at y
        exact p3 i y.1.1 (by have := y.1.2; omega) y.2
      · intro y
        have := (z_bits (RI_bset _ _)).mp y r (by omega)
        have y2 := (bb_bset (fun r => ((ow r).val : Int) = (o : Int)) (i := r) (by omega) n (by omega)).mpr ⟨p1, by omega⟩
        rw [this] at y2
        cases y2
    · intro f
      simp only [p_X8_starless_L38]
      unfold p_X8_starless_38
      rw [if_pos (by decide)]
  · rw [if01_f q, if_neg q]; exact ⟨h, rfl, Sc.rf h⟩
theorem or_bit {a : Int} {Q : Nat → Prop} (ha : ∀ o, o < 32 → (bb a o = true ↔ Q o)) {j : Nat} (hj : j < 32) : ∀ o, o < 32 → (bb (bor a (bshl 1 (j : Int))) o = true ↔ Q o ∨ o = j) := by
  intro o ho
  rw [bb_or, Bool.or_eq_true, ha o ho, bb_1 hj ho, decide_eq_true_eq]
theorem y_starless (v : MV2 h n c H ow sm k ri sp wo law hr cl) (m : Int) : ∃ h', p_X9_starless h m = some (s_starless n c H ow k ri sp law hr m, h') ∧ Sm h h' := by
  refine ⟨_, ?_, Sm.up0 h⟩
  have v' := v.md (Sm.up0 h)
  obtain ⟨v1, v2, v3, v4, v5, v6, v7⟩ := id v'
  obtain ⟨hn, a4, a5, hc, hH, ho⟩ := id v1
  have hk := v2.1
  unfold p_X9_starless s_starless
  generalize up h 45 0 0 = g at *
  rw [m_in]
  simp only [bd_s]
  by_cases q : 1 ≤ m ∧ m ≤ 10
  · rw [if01_t q, if_pos q]
    obtain ⟨m', rfl⟩ := toN (show 0 ≤ m by omega)
    simp only [Int.toNat_natCast]
    refine loop_inv (fun f i a => p_X9_starless_L27 f g (m' : Int) a 0 i) n (fun j a => ∀ o, o < 32 → (bb a o = true ↔ ∃ r, r < j ∧ (ow r).val = o)) (fun o => o = some (fromF (SLP n ow k (HD n c H (AL n) law ri sp) hr m') (fun o => (o : Int)) (-9) 4 0, g)) ?_ ?_ 300 0 0 (Nat.zero_le _) (by omega) (fun x _ => by rw [bb_0]; simp)
    · intro f r a hr' hI
      simp only [p_X9_starless_L27]
      unfold p_X9_starless_27
      rw [a4, if_neg (by omega), wr_s (a := 6 + (r : Int)) (by omega) (by omega), gd_w (by omega), ho r hr', wr_1 (by omega)]
      refine ⟨_, fun o ho' => ?_, rfl⟩
      rw [or_bit hI (by omega) o ho']
      constructor
      · rintro (⟨r', q1, q2⟩ | rfl)
        · exact ⟨r', by omega, q2⟩
        · exact ⟨r, by omega, rfl⟩
      · rintro ⟨r', q1, q2⟩
        by_cases e : r' = r
        · subst e; exact Or.inr q2.symm
        · exact Or.inl ⟨r', by omega, q2⟩
    · intro f A hA
      simp only [p_X9_starless_L27]
      unfold p_X9_starless_27
      rw [a4, if_pos (by omega)]
      unfold p_X9_starless_57
      rw [v4]
      have e0 : (hr : Int) + ((0 : Nat) : Int) = (hr : Int) := by omega
      have key := loop_inv (fun f i a => p_X9_starless_L66 f g (m' : Int) A a ((hr : Int) + i)) m' (fun j a => ∀ o, o < 32 → (bb a o = true ↔ ∃ i, i < j ∧ ∃ s, s < k ∧ ∃ r : Nat, r < n ∧ HD n c H (AL n) law ri sp s (hr + i) = (r : Int) ∧ (ow r).val = o)) (fun o => o = some (fromF (SLP n ow k (HD n c H (AL n) law ri sp) hr m') (fun o => (o : Int)) (-9) 4 0, g)) ?_ ?_ 300 0 0 (Nat.zero_le _) (by omega) (fun x _ => by rw [bb_0]; simp)
      · simp only [e0] at key
        exact key
      · intro f i a hi hI
        simp only [p_X9_starless_L66]
        unfold p_X9_starless_66
        rw [v4, wr_s (a := (hr : Int) + (m' : Int)) (by omega) (by omega), if_neg (by omega)]
        have inner := loop_inv (fun f2 s a => p_X9_starless_L83 (fun h l1 l2 l3 l4 => p_X9_starless_L66 f h l1 l2 l3 l4) f2 g (m' : Int) A a ((hr : Int) + (i : Int)) s) k (fun j a => ∀ o, o < 32 → (bb a o = true ↔ (∃ i', i' < i ∧ ∃ s, s < k ∧ ∃ r : Nat, r < n ∧ HD n c H (AL n) law ri sp s (hr + i') = (r : Int) ∧ (ow r).val = o) ∨ ∃ s, s < j ∧ ∃ r : Nat, r < n ∧ HD n c H (AL n) law ri sp s (hr + i) = (r : Int) ∧ (ow r).val = o)) (fun o => ∃ a', (∀ o, o < 32 → (bb a' o = true ↔ ∃ i', i' < i + 1 ∧ ∃ s, s < k ∧ ∃ r : Nat, r < n ∧ HD n c H (AL n) law ri sp s (hr + i') = (r : Int) ∧ (ow r).val = o)) ∧ o = p_X9_starless_L66 f g (m' : Int) A a' ((hr : Int) + ((i : Int) + 1))) ?_ ?_ 300 0 a (Nat.zero_le _) (by omega) (fun o ho' => by rw [hI o ho']; simp)
        · exact inner
        · intro f2 s a2 hs hJ
          simp only [p_X9_starless_L83]
          unfold p_X9_starless_83
          rw [v2.2.1, if_neg (by omega), m_all v1]
          simp only [bd_s]
          rw [v3, ← Int.natCast_add, m_holder v1 v2 hs (by omega)]
          simp only [bd_s]
          rcases HD_in n c H (AL n) law ri sp s (hr + i) with z | ⟨j, z1, z2, z3⟩
          · rw [if_pos z]
            unfold p_X9_starless_138
            rw [wr_1 (by omega)]
            refine ⟨_, fun o ho' => ?_, rfl⟩
            rw [bb_or, bb_0, Bool.or_false, hJ o ho']
            constructor
            · rintro (x | ⟨s', x1, x2⟩)
              · exact Or.inl x
              · exact Or.inr ⟨s', by omega, x2⟩
            · rintro (x | ⟨s', x1, r, x2, x3, x4⟩)
              · exact Or.inl x
              · refine Or.inr ⟨s', ?_, r, x2, x3, x4⟩
                rcases Nat.lt_or_ge s' s with y | y
                · exact y
                · have : s' = s := by omega
                  subst this
                  omega
          · rw [if_neg (by omega), z2, wr_s (a := 6 + (j : Int)) (by omega) (by omega), gd_w (by omega), ho j z1]
            unfold p_X9_starless_138
            rw [wr_1 (by omega)]
            refine ⟨_, fun o ho' => ?_, rfl⟩
            rw [or_bit hJ (by omega) o ho']
            constructor
            · rintro ((x | ⟨s', x1, x2⟩) | rfl)
              · exact Or.inl x
              · exact Or.inr ⟨s', by omega, x2⟩
              · exact Or.inr ⟨s, by omega, j, z1, z2, rfl⟩
            · rintro (x | ⟨s', x1, r, x2, x3, x4⟩)
              · exact Or.inl (Or.inl x)
              · by_cases e : s' = s
                · subst e
                  rw [z2] at x3
                  have : r = j := by omega
                  subst this
                  exact Or.inr x4.symm
                · exact Or.inl (Or.inr ⟨s', by omega, r, x2, x3, x4⟩)
        · intro f2 a2 hJ
          simp only [p_X9_starless_L83]
          unfold p_X9_starless_83
          rw [v2.2.1, if_pos (by omega)]
          unfold p_X9_starless_146
          rw [wr_s (a := (hr : Int) + (i : Int) + 1) (by omega) (by omega), Int.add_assoc]
          refine ⟨a2, fun o ho' => ?_, rfl⟩
          rw [hJ o ho']
          constructor
          · rintro (⟨i', x1, x2⟩ | x)
            · exact ⟨i', by omega, x2⟩
            · exact ⟨i, by omega, x⟩
          · rintro ⟨i', x1, x2⟩
            by_cases e : i' = i
            · subst e; exact Or.inr x2
            · exact Or.inl ⟨i', by omega, x2⟩
      · intro f B hB
        simp only [p_X9_starless_L66]
        unfold p_X9_starless_66
        rw [v4, wr_s (a := (hr : Int) + (m' : Int)) (by omega) (by omega), if_pos (by omega)]
        unfold p_X9_starless_152
        have bits : ∀ o, o < 4 → (bb (band A (bxor B (-1))) o = true ↔ SLP n ow k (HD n c H (AL n) law ri sp) hr m' o) := by
          intro o ho'
          rw [bb_and, bb_xor, bb_m1 (by omega), Bool.and_eq_true, hA o (by omega)]
          unfold SLP
          have hb := hB o (by omega)
          constructor
          · rintro ⟨x1, x2⟩
            refine ⟨x1, fun r y1 y2 ⟨s, y3, i, y4, y5⟩ => ?_⟩
            have := hb.mpr ⟨i, y4, s, y3, r, y1, y5, y2⟩
            rw [this] at x2
            cases x2
          · rintro ⟨x1, x2⟩
            refine ⟨x1, ?_⟩
            cases y : bb B o
            · rfl
            · obtain ⟨i, y4, s, y3, r, y1, y5, y2⟩ := hb.mp y
              exact absurd ⟨s, y3, i, y4, y5⟩ (x2 r y1 y2)
        rw [← fromF_map _ (fun o => some (o, g))]
        refine loop_first (fun f i => p_X9_starless_L155 f g A B i) 4 (SLP n ow k (HD n c H (AL n) law ri sp) hr m') _ _ ?_ ?_ ?_ 300 0 (Nat.zero_le _) (by omega)
        · intro f o ho' hP
          simp only [p_X9_starless_L155]
          unfold p_X9_starless_155
          rw [if_neg (by omega), m_has g _ (by omega), if_neg (fun y => hP ((bits o ho').mp y)), bd_n, if_pos rfl, wr_1 (by omega)]
        · intro f o ho' hP
          simp only [p_X9_starless_L155]
          unfold p_X9_starless_155
          rw [if_neg (by omega), m_has g _ (by omega), if_pos ((bits o ho').mpr hP)]
          simp only [bd_s]
          rw [if_neg (by decide)]
        · intro f
          simp only [p_X9_starless_L155]
          unfold p_X9_starless_155
          rw [if_pos (by decide)]
  · rw [if01_f q, if_neg q]
/-- HOLD -/
def Cov (n : Nat) (c H : Nat → Fin 10) (ri : Nat → Fin 10) (sp : Nat → Fin 4) (s hr m v : Nat) : Prop := ∀ i, i < m → ∃ r, r < n ∧ bb (v : Int) r = true ∧ Sees n c H (AL n) (scell ri sp s (hr + i)) r
noncomputable def s_hold (n : Nat) (c H : Nat → Fin 10) (k : Nat) (ri : Nat → Fin 10) (sp : Nat → Fin 4) (hr : Nat) (s m : Int) : Int := if 0 ≤ s ∧ s < (k : Int) then if 1 ≤ m ∧ m ≤ 10 then hld (Cov n c H ri sp s.toNat hr m.toNat) pop (ns n) else -2 else -1
theorem x_hold (v : CV h n c H ow sm k ri sp wo law hr cl) (s m : Int) : ∃ h', p_X8_hold h s m = some (s_hold n c H k ri sp hr s m, h') ∧ Sc h h' := by
  unfold p_X8_hold s_hold
  rw [t_hasSR v.2.1, bd_n]
  by_cases q0 : 0 ≤ s ∧ s < (k : Int)
  · rw [if01_t q0, if_pos q0, x_span, bd_n]
    by_cases q : 1 ≤ m ∧ m ≤ 10
    · rw [if01_t q, if_pos q]
      obtain ⟨m', rfl⟩ := toN (show 0 ≤ m by omega)
      obtain ⟨s', rfl⟩ := toN q0.1
      have hs : s' < k := by omega
      simp only [Int.toNat_natCast]
      obtain ⟨h', e, sv⟩ := x_survey v
      have v' := v.sc sv.sc
      obtain ⟨v1, v2, v3, v4, v5, v6, v7⟩ := id v'
      have hn := v1.1
      obtain ⟨W, eW, hW⟩ := t_cellsPassed v2 hs (fr := hr) (m := m') (by omega) (by omega)
      rw [e, bd_n, v4, eW, bd_n]
      refine ⟨h', ?_, sv.sc⟩
      obtain ⟨eA, nb1, nb2⟩ := AL_ns hn
      refine loop_up (fun f i a => p_X8_hold_L53 f h' W a i) (hld (Cov n c H ri sp s' hr m') pop) (ns n) _ ?_ ?_ 300 0 (Nat.zero_le _) (by omega)
      · intro f u hu
        simp only [p_X8_hold_L53]
        unfold p_X8_hold_53
        rw [t_every v1, bd_n, if_neg (by omega)]
        obtain ⟨w, ew, hw⟩ := t_cellsSeenBy h' (u : Int)
        rw [ew, bd_n]
        have covs : band W (bxor w (-1)) = 0 ↔ Cov n c H ri sp s' hr m' u := by
          rw [and_not]
          constructor
          · intro y i hi
            have hlt := scell_lt ri sp s' (hr + i)
            have z1 := y _ (by omega) ((hW _ (by omega)).mpr ⟨i, hi, rfl⟩)
            rw [hw _ (by omega)] at z1
            obtain ⟨r, r1, r2, r3⟩ := z1
            have sees := (sv.2.1 r r1 _ hlt).mp r3
            exact ⟨r, sees.1, r2, sees⟩
          · intro y x hx z
            obtain ⟨i, hi, rfl⟩ := (hW x hx).mp z
            obtain ⟨r, r1, r2, r3⟩ := y i hi
            rw [hw _ hx]
            exact ⟨r, by omega, r2, (sv.2.1 r (by omega) _ (scell_lt _ _ _ _)).mpr r3⟩
        have keep : p_X8_hold_117 (fun h l3 l4 l5 => p_X8_hold_L53 f h l3 l4 l5) h' W (hld (Cov n c H ri sp s' hr m') pop u) (u : Int) = p_X8_hold_L53 f h' W (hld (Cov n c H ri sp s' hr m') pop u) ((u : Int) + 1) := by
          unfold p_X8_hold_117
          rw [wr_1 (by omega)]
        have take : p_X8_hold_113 (fun h l3 l4 l5 => p_X8_hold_L53 f h l3 l4 l5) h' W (u : Int) = p_X8_hold_L53 f h' W (u : Int) ((u : Int) + 1) := by
          unfold p_X8_hold_113 p_X8_hold_117
          rw [wr_1 (by omega)]
        unfold p_X8_hold_86
        by_cases y : Cov n c H ri sp s' hr m' u
        · rw [if_pos (covs.mpr y), if_neg (by decide)]
          rcases hld_in (Cov n c H ri sp s' hr m') pop u with z | ⟨j, z1, z2, z3⟩
          · rw [if_pos z, take, hld_t ⟨y, Or.inl z⟩]
          · rw [if_neg (by omega), j_many h' (by omega), bd_n, z2, j_many h' (by omega), bd_n]
            by_cases w2 : pop u < pop j
            · rw [if_neg (by omega), take, hld_t ⟨y, Or.inr (by rw [z2]; exact w2)⟩]
            · rw [if_pos (by omega), ← z2, keep, hld_f]
              rintro ⟨-, t | t⟩
              · omega
              · rw [z2] at t; exact w2 t
        · rw [if_neg (fun z => y (covs.mp z)), if_pos rfl, keep, hld_f (fun z => y z.1)]
      · intro f
        simp only [p_X8_hold_L53]
        unfold p_X8_hold_53
        rw [t_every v1, bd_n, if_pos (by omega)]
    · rw [if01_f q, if_neg q]; exact ⟨h, rfl, Sc.rf h⟩
  · rw [if01_f q0, if_neg q0]; exact ⟨h, rfl, Sc.rf h⟩
theorem y_hold (v : MV2 h n c H ow sm k ri sp wo law hr cl) (s m : Int) : ∃ h', p_X9_hold h s m = some (s_hold n c H k ri sp hr s m, h') ∧ Sm h h' := by
  refine ⟨_, ?_, Sm.up0 h⟩
  have v' := v.md (Sm.up0 h)
  obtain ⟨v1, v2, v3, v4, v5, v6, v7⟩ := id v'
  obtain ⟨hn, a4, a5, hc, hH, ho⟩ := id v1
  have hk := v2.1
  unfold p_X9_hold s_hold
  generalize up h 45 0 0 = g at *
  rw [m_noStar v2, bd_n]
  by_cases q0 : 0 ≤ s ∧ s < (k : Int)
  · rw [if10_t q0, if_pos q0, m_in, bd_n]
    by_cases q : 1 ≤ m ∧ m ≤ 10
    · rw [if01_t q, if_pos q]
      obtain ⟨m', rfl⟩ := toN (show 0 ≤ m by omega)
      obtain ⟨s', rfl⟩ := toN q0.1
      have hs : s' < k := by omega
      simp only [Int.toNat_natCast]
      obtain ⟨eA, nb1, nb2⟩ := AL_ns hn
      refine loop_up (fun f i a => p_X9_hold_L36 f g (s' : Int) (m' : Int) a i) (hld (Cov n c H ri sp s' hr m') pop) (ns n) _ ?_ ?_ 300 0 (Nat.zero_le _) (by omega)
      · intro f u hu
        simp only [p_X9_hold_L36]
        unfold p_X9_hold_36
        rw [m_all v1, bd_n, if_neg (by omega)]
        have go : ∀ (B : Prop), (B ↔ hld (Cov n c H ri sp s' hr m') pop u = -9 ∨ pop u < pop (hld (Cov n c H ri sp s' hr m') pop u).toNat) → p_X9_hold_68 (fun h l1 l2 l3 l4 => p_X9_hold_L36 f h l1 l2 l3 l4) g (s' : Int) (m' : Int) (hld (Cov n c H ri sp s' hr m') pop u) (u : Int) (bi B) = p_X9_hold_L36 f g (s' : Int) (m' : Int) (hld (Cov n c H ri sp s' hr m') pop (u + 1)) ((u : Int) + 1) := by
          intro B hB
          have last : ∀ C : Prop, (C ↔ (B ∧ Cov n c H ri sp s' hr m' u)) → p_X9_hold_175 (fun h l1 l2 l3 l4 => p_X9_hold_L36 f h l1 l2 l3 l4) g (s' : Int) (m' : Int) (hld (Cov n c H ri sp s' hr m') pop u) (u : Int) (bi C) = p_X9_hold_L36 f g (s' : Int) (m' : Int) (hld (Cov n c H ri sp s' hr m') pop (u + 1)) ((u : Int) + 1) := by
            intro C hC
            unfold p_X9_hold_175 p_X9_hold_186
            rw [wr_1 (by omega)]
            by_cases z : C
            · rw [bi_t z, if_neg (by decide), hld_t ⟨(hC.mp z).2, hB.mp (hC.mp z).1⟩]
            · rw [bi_f z, if_pos rfl, hld_f (fun y => z (hC.mpr ⟨hB.mpr y.2, y.1⟩))]
          unfold p_X9_hold_68
          rw [v4]
          have e0 : (hr : Int) + ((0 : Nat) : Int) = (hr : Int) := by omega
          have key := loop_x (fun f2 i a => p_X9_hold_L79 (fun h l1 l2 l3 l4 => p_X9_hold_L36 f h l1 l2 l3 l4) f2 g (s' : Int) (m' : Int) (hld (Cov n c H ri sp s' hr m') pop u) (u : Int) a ((hr : Int) + i)) m' (fun j a => a = bi (B ∧ ∀ i, i < j → ∃ r, r < n ∧ bb (u : Int) r = true ∧ Sees n c H (AL n) (scell ri sp s' (hr + i)) r)) (fun o => o = p_X9_hold_L36 f g (s' : Int) (m' : Int) (hld (Cov n c H ri sp s' hr m') pop (u + 1)) ((u : Int) + 1)) ?_ ?_ 300 0 (bi B) (Nat.zero_le _) (by omega) (bi_c ⟨fun z => ⟨z, fun i hi => by omega⟩, fun z => z.1⟩)
          · simp only [e0] at key
            exact key
          · intro f2 i a hi hI
            subst hI
            simp only [p_X9_hold_L79]
            unfold p_X9_hold_79
            rw [v4, wr_s (a := (hr : Int) + (m' : Int)) (by omega) (by omega), if_neg (by omega)]
            by_cases z : B ∧ ∀ i', i' < i → ∃ r, r < n ∧ bb (u : Int) r = true ∧ Sees n c H (AL n) (scell ri sp s' (hr + i')) r
            · left
              rw [bi_t z, if_neg (by decide)]
              have inner := loop_inv (fun f3 r a => p_X9_hold_L104 (fun h l1 l2 l3 l4 => p_X9_hold_L36 f h l1 l2 l3 l4) (fun h l1 l2 l3 l4 l5 l6 => p_X9_hold_L79 (fun h l1 l2 l3 l4 => p_X9_hold_L36 f h l1 l2 l3 l4) f2 h l1 l2 l3 l4 l5 l6) f3 g (s' : Int) (m' : Int) (hld (Cov n c H ri sp s' hr m') pop u) (u : Int) ((hr : Int) + (i : Int)) a r) n (fun j a => a = bi (∃ r, r < j ∧ bb (u : Int) r = true ∧ Sees n c H (AL n) (scell ri sp s' (hr + i)) r)) (fun o => o = p_X9_hold_L79 (fun h l1 l2 l3 l4 => p_X9_hold_L36 f h l1 l2 l3 l4) f2 g (s' : Int) (m' : Int) (hld (Cov n c H ri sp s' hr m') pop u) (u : Int) (bi (∃ r, r < n ∧ bb (u : Int) r = true ∧ Sees n c H (AL n) (scell ri sp s' (hr + i)) r)) ((hr : Int) + ((i : Int) + 1))) ?_ ?_ 300 0 0 (Nat.zero_le _) (by omega) (bi_f (fun ⟨r, y, _⟩ => by omega)).symm
              · refine ⟨_, ?_, inner⟩
                apply bi_c
                constructor
                · intro y
                  refine ⟨z.1, fun i' hi' => ?_⟩
                  rcases Nat.lt_or_ge i' i with t | t
                  · exact z.2 i' t
                  · rw [show i' = i by omega]; exact y
                · intro y; exact y.2 i (by omega)
              · intro f3 r a hr' hJ
                subst hJ
                refine ⟨_, rfl, ?_⟩
                simp only [p_X9_hold_L104]
                unfold p_X9_hold_104
                rw [a4, if_neg (by omega)]
                by_cases y : ∃ r', r' < r ∧ bb (u : Int) r' = true ∧ Sees n c H (AL n) (scell ri sp s' (hr + i)) r'
                · rw [bi_t y, if_neg (by decide), bi_t (by obtain ⟨r', y1, y2⟩ := y; exact ⟨r', by omega, y2⟩)]
                  unfold p_X9_hold_152 p_X9_hold_157
                  rw [wr_1 (by omega)]
                · rw [bi_f y, if_pos rfl, m_has g _ (by omega), bd_n]
                  have no : ¬ (bb (u : Int) r = true ∧ Sees n c H (AL n) (scell ri sp s' (hr + i)) r) → ¬ ∃ r', r' < r + 1 ∧ bb (u : Int) r' = true ∧ Sees n c H (AL n) (scell ri sp s' (hr + i)) r' := by
                    rintro t ⟨r', y1, y2⟩
                    rcases Nat.lt_or_ge r' r with t2 | t2
                    · exact y ⟨r', t2, y2⟩
                    · have : r' = r := by omega
                      subst this
                      exact t y2
                  by_cases y1 : bb (u : Int) r = true
                  · rw [if_pos y1, if_neg (by decide), m_all v1, bd_n, ← Int.natCast_add, m_over v2 hs (by omega), bd_n, m_doesSee v1 hr' (scell_lt _ _ _ _), bd_n]
                    by_cases y2 : Sees n c H (AL n) (scell ri sp s' (hr + i)) r
                    · rw [bi_t y2, if_neg (by decide), bi_t ⟨r, by omega, y1, y2⟩]
                      unfold p_X9_hold_152 p_X9_hold_157
                      rw [wr_1 (by omega)]
                    · rw [bi_f y2, if_pos rfl, bi_f (no (fun t => y2 t.2))]
                      unfold p_X9_hold_156 p_X9_hold_157
                      rw [wr_1 (by omega)]
                  · rw [if_neg y1, if_pos rfl, bi_f (no (fun t => y1 t.1))]
                    unfold p_X9_hold_156 p_X9_hold_157
                    rw [wr_1 (by omega)]
              · intro f3 a hJ
                subst hJ
                simp only [p_X9_hold_L104]
                unfold p_X9_hold_104
                rw [a4, if_pos (by omega)]
                unfold p_X9_hold_165
                rw [wr_s (a := (hr : Int) + (i : Int) + 1) (by omega) (by omega), Int.add_assoc]
            · right
              rw [bi_f z, if_pos rfl]
              have := last (B ∧ ∀ i', i' < i → ∃ r, r < n ∧ bb (u : Int) r = true ∧ Sees n c H (AL n) (scell ri sp s' (hr + i')) r)
              have nC : ¬ (B ∧ Cov n c H ri sp s' hr m' u) := fun y => z ⟨y.1, fun i' hi' => y.2 i' (by omega)⟩
              have := this ⟨fun y => absurd y z, fun y => absurd y nC⟩
              rw [bi_f z] at this
              exact this
          · intro f2 a hI
            subst hI
            simp only [p_X9_hold_L79]
            unfold p_X9_hold_79
            rw [v4, wr_s (a := (hr : Int) + (m' : Int)) (by omega) (by omega), if_pos (by omega)]
            exact last _ Iff.rfl
        by_cases z : hld (Cov n c H ri sp s' hr m') pop u = -9
        · rw [if_pos z]
          unfold p_X9_hold_63
          have := go True ⟨fun _ => Or.inl z, fun _ => trivial⟩
          rw [bi_t trivial] at this
          exact this
        · rw [if_neg z]
          rcases hld_in (Cov n c H ri sp s' hr m') pop u with z0 | ⟨j, z1, z2, z3⟩
          · exact absurd z0 z
          · have ej : (hld (Cov n c H ri sp s' hr m') pop u).toNat = j := by omega
            rw [m_many g (by omega), bd_n, show p_X9_many g (hld (Cov n c H ri sp s' hr m') pop u) = some ((pop j : Nat) : Int) by rw [z2]; exact m_many g (by omega), bd_n]
            have := go (pop u < pop j) (by rw [ej]; exact ⟨fun t => Or.inr t, fun t => by rcases t with t | t; exact absurd t z; exact t⟩)
            by_cases w2 : pop u < pop j
            · rw [if_neg (by omega)]
              unfold p_X9_hold_63
              rw [bi_t w2] at this
              exact this
            · rw [if_pos (by omega)]
              rw [bi_f w2] at this
              exact this
      · intro f
        simp only [p_X9_hold_L36]
        unfold p_X9_hold_36
        rw [m_all v1, bd_n, if_pos (by omega)]
    · rw [if01_f q, if_neg q]
  · rw [if10_f q0, if_neg q0]
end SETS
