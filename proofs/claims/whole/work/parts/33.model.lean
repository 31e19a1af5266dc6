/-! ===== the reference, in the same numbers ===== -/
def PV (h : Mem) (p n : Nat) (c H : Nat → Fin 10) (ow : Nat → Fin 4) (sm : Int) : Prop := n ≤ 5 ∧ h 45 5 = (n : Int) ∧ h p 5 = sm ∧ (∀ r : Nat, r < n → h 47 (r : Int) = ((c r).val : Int)) ∧ (∀ r : Nat, r < n → h p (r : Int) = ((H r).val : Int)) ∧ ∀ r : Nat, r < n → h p (6 + (r : Int)) = ((ow r).val : Int)
def MS (h : Mem) (k : Nat) (ri : Nat → Fin 10) (sp : Nat → Fin 4) (wo : Nat → Fin 10) : Prop := k ≤ 4 ∧ h 45 6 = (k : Int) ∧ (∀ s : Nat, s < k → h 48 (s : Int) = ((ri s).val : Int)) ∧ (∀ s : Nat, s < k → h 49 (s : Int) = ((sp s).val : Int)) ∧ ∀ s : Nat, s < k → h 50 (s : Int) = ((wo s).val : Int)
theorem lc_lt {a b : Int} : lcmp64 a b < 0 ↔ a < b := by unfold lcmp64; split <;> (try split) <;> omega
theorem lc_gt {a b : Int} : 0 < lcmp64 a b ↔ b < a := by unfold lcmp64; split <;> (try split) <;> omega
theorem lc_z {a b : Int} : lcmp64 a b = 0 ↔ a = b := by unfold lcmp64; split <;> (try split) <;> omega
theorem m_in (h : Mem) (a lo hi : Int) : p_X9_in h a lo hi = some (if lo ≤ a ∧ a ≤ hi then 1 else 0) := by
  unfold p_X9_in
  by_cases q : a < lo
  · rw [if_pos (lc_lt.mpr q), if_neg (by omega)]
  · rw [if_neg (fun z => q (lc_lt.mp z))]
    by_cases w : hi < a
    · rw [if_pos (lc_gt.mpr w), if_neg (by omega)]
    · rw [if_neg (fun z => w (lc_gt.mp z)), if_pos (by omega)]
theorem m_has (h : Mem) (S : Int) {r : Nat} (hr : r < 32) : p_X9_has h S (r : Int) = some (if bb S r = true then 1 else 0) := by
  unfold p_X9_has
  by_cases q : bb S r = true
  · rw [if_pos ((hb_1 S hr).mpr q), if_pos q]
  · rw [if_neg (fun z => q ((hb_1 S hr).mp z)), if_neg q]
theorem m_far (h : Mem) {a b : Nat} (ha : a < 1000) (hb : b < 1000) : p_X9_far h (a : Int) (b : Int) = some ((adf a b : Nat) : Int) := by
  unfold p_X9_far adf
  by_cases q : (b : Int) ≤ a
  · rw [if_pos q, wr_s (by omega) (by omega)]
    congr 1
    split <;> omega
  · rw [if_neg q, wr_s (by omega) (by omega)]
    congr 1
    split <;> omega
theorem adf_comm (a b : Nat) : adf a b = adf b a := by unfold adf; split <;> split <;> omega
section MODEL
variable {h : Mem} {p n : Nat} {c H : Nat → Fin 10} {ow : Nat → Fin 4} {sm : Int} {k : Nat} {ri : Nat → Fin 10} {sp : Nat → Fin 4} {wo : Nat → Fin 10}
theorem m_all (v : PV h p n c H ow sm) : p_X9_all h = some (AL n) := by
  unfold p_X9_all AL
  rw [v.2.1]
theorem m_isShaded (v : PV h p n c H ow sm) {r : Nat} (hr : r < n) (S : Int) : p_X9_isShaded h p S (r : Int) = some (bi (Shd n c H S r)) := by
  obtain ⟨hn, h5, hs, hc, hH, ho⟩ := id v
  unfold p_X9_isShaded
  have e0 : (0 : Int) = bi (∃ o, o < 0 ∧ bb S o = true ∧ adf (c o).val (c r).val = 1 ∧ (H r).val + 3 < (H o).val) := (bi_f (fun ⟨o, q, _⟩ => by omega)).symm
  have goal := loop_up (fun f i a => p_X9_isShaded_L6 h p f S (r : Int) a i) (fun j => bi (∃ o, o < j ∧ bb S o = true ∧ adf (c o).val (c r).val = 1 ∧ (H r).val + 3 < (H o).val)) n (some (bi (Shd n c H S r))) (by
    intro f o hlt
    simp only [p_X9_isShaded_L6]
    unfold p_X9_isShaded_6
    rw [h5, if_neg (by omega)]
    by_cases q0 : ∃ o', o' < o ∧ bb S o' = true ∧ adf (c o').val (c r).val = 1 ∧ (H r).val + 3 < (H o').val
    · rw [bi_t q0, if_neg (by decide), bi_t (by obtain ⟨o', z1, z2⟩ := q0; exact ⟨o', by omega, z2⟩)]
      unfold p_X9_isShaded_61 p_X9_isShaded_66
      rw [wr_1 (by omega)]
    · rw [bi_f q0, if_pos rfl, m_has h S (by omega)]
      simp only [bd_s]
      by_cases hb : bb S o = true
      · rw [if_pos hb, if_neg (by decide), gd_w (by omega), gd_w (by omega), hc o hlt, hc r hr, m_far h (by omega) (by omega)]
        simp only [bd_s]
        by_cases hd : adf (c o).val (c r).val = 1
        · rw [if_pos (by omega), gd_w (by omega), gd_w (by omega), hH o hlt, hH r hr, wr_s (by omega) (by omega)]
          by_cases hh : (H r).val + 3 < (H o).val
          · rw [if_neg (by omega), bi_t ⟨o, by omega, hb, hd, hh⟩]
            unfold p_X9_isShaded_61 p_X9_isShaded_66
            rw [wr_1 (by omega)]
          · rw [if_pos (by omega), bi_f (by
              rintro ⟨o', z1, z2, z3, z4⟩
              rcases Nat.lt_or_ge o' o with w | w
              · exact q0 ⟨o', w, z2, z3, z4⟩
              · have : o' = o := by omega
                subst this
                exact hh z4)]
            unfold p_X9_isShaded_65 p_X9_isShaded_66
            rw [wr_1 (by omega)]
        · rw [if_neg (by omega), bi_f (by
              rintro ⟨o', z1, z2, z3, z4⟩
              rcases Nat.lt_or_ge o' o with w | w
              · exact q0 ⟨o', w, z2, z3, z4⟩
              · have : o' = o := by omega
                subst this
                exact hd z3)]
          unfold p_X9_isShaded_65 p_X9_isShaded_66
          rw [wr_1 (by omega)]
      · rw [if_neg hb, if_pos rfl, bi_f (by
              rintro ⟨o', z1, z2, z3, z4⟩
              rcases Nat.lt_or_ge o' o with w | w
              · exact q0 ⟨o', w, z2, z3, z4⟩
              · have : o' = o := by omega
                subst this
                exact hb z2)]
        unfold p_X9_isShaded_65 p_X9_isShaded_66
        rw [wr_1 (by omega)]) (by
    intro f
    simp only [p_X9_isShaded_L6]
    unfold p_X9_isShaded_6
    rw [h5, if_pos (by omega), gd_w (bi_01 _)]
    rfl) 300 0 (Nat.zero_le _) (by omega)
  simp only [← e0] at goal
  exact goal
theorem m_doesSee (v : PV h p n c H ow sm) {r x : Nat} (hr : r < n) (hx : x < 10) (S : Int) : p_X9_doesSee h p S (r : Int) (x : Int) = some (bi (Sees n c H S x r)) := by
  obtain ⟨hn, h5, hs, hc, hH, ho⟩ := id v
  unfold p_X9_doesSee
  rw [m_has h S (by omega)]
  simp only [bd_s]
  by_cases hb : bb S r = true
  · rw [if_pos hb, if_neg (by decide), gd_w (by omega), hc r hr, m_far h (by omega) (by omega)]
    simp only [bd_s]
    rw [gd_w (by omega), hH r hr, show (4 : Int) = ((4 : Nat) : Int) from rfl, qdiv_n (by omega) (by omega) (by omega)]
    by_cases hd : adf (c r).val x ≤ (H r).val / 4
    · rw [if_neg (by omega), m_isShaded v hr]
      simp only [bd_s]
      by_cases q : Shd n c H S r
      · rw [bi_t q, if_neg (by decide), bi_f (fun z => z.2.2.2 q)]
      · rw [bi_f q, if_pos rfl, bi_t ⟨hr, hb, hd, q⟩]
    · rw [if_pos (by omega), bi_f (fun z => hd z.2.2.1)]
  · rw [if_neg hb, if_pos rfl, bi_f (fun z => hb z.2.1)]
theorem m_over (w : MS h k ri sp wo) {s hr : Nat} (hs : s < k) (hh : hr < 100000) : p_X9_over h (s : Int) (hr : Int) = some ((scell ri sp s hr : Nat) : Int) := by
  obtain ⟨hk, h6, hri, hsp, hwo⟩ := id w
  have h1 : (sp s).val * hr ≤ 3 * 100000 := Nat.mul_le_mul (by omega) (by omega)
  unfold p_X9_over
  rw [gd_w (by omega), gd_w (by omega), hri s hs, hsp s hs, ← Int.natCast_mul, wr_s (a := (((sp s).val * hr : Nat) : Int)) (by omega) (by omega), ← Int.natCast_add, wr_s (by omega) (by omega), show (10 : Int) = ((10 : Nat) : Int) from rfl, qrem_n (by omega) (by omega) (by omega)]
  rfl
theorem key_lt (law : Nat) (c H : Nat → Fin 10) {x : Nat} (hx : x < 10) (r : Nat) : key law c H x r < 1000 := by
  unfold key adf
  split
  · split <;> omega
  · split <;> omega
theorem m_holder (v : PV h p n c H ow sm) (w : MS h k ri sp wo) {s hr law : Nat} (hs : s < k) (hh : hr < 100000) (S : Int) : p_X9_holder h p S (s : Int) (hr : Int) (law : Int) = some (HD n c H S law ri sp s hr) := by
  obtain ⟨hn, h5, hsm, hc, hH, ho⟩ := id v
  unfold p_X9_holder HD
  rw [m_over w hs hh]
  simp only [bd_s]
  have hx := scell_lt ri sp s hr
  generalize scell ri sp s hr = x at hx ⊢
  have hkl := key_lt law c H hx
  refine loop_inv (fun f i (a : Int × Int) => p_X9_holder_L19 h p f S (law : Int) (x : Int) a.1 a.2 i) n (fun j a => a.1 = hld (Sees n c H S x) (key law c H x) j ∧ (a.1 = -9 ∨ a.2 = ((key law c H x a.1.toNat : Nat) : Int))) (fun o => o = some (hld (Sees n c H S x) (key law c H x) n)) ?_ ?_ 300 0 ((-9 : Int), (0 : Int)) (Nat.zero_le _) (by omega) ⟨rfl, Or.inl rfl⟩
  · intro f r a hr' hI
    obtain ⟨i1, i2⟩ := hI
    simp only [p_X9_holder_L19]
    unfold p_X9_holder_19
    rw [h5, if_neg (by omega), m_doesSee v hr' hx]
    simp only [bd_s]
    by_cases q : Sees n c H S x r
    · rw [bi_t q, if_neg (by decide)]
      have hv : ∀ e : Int, e = ((key law c H x r : Nat) : Int) → ∃ a' : Int × Int, (a'.1 = hld (Sees n c H S x) (key law c H x) (r + 1) ∧ (a'.1 = -9 ∨ a'.2 = ((key law c H x a'.1.toNat : Nat) : Int))) ∧ (if a.1 = -9 then p_X9_holder_105 (fun l2 l5 l6 l7 l8 l9 => p_X9_holder_L19 h p f l2 l5 l6 l7 l8 l9) h p S (law : Int) (x : Int) (r : Int) e else if a.2 ≤ e then p_X9_holder_113 (fun l2 l5 l6 l7 l8 l9 => p_X9_holder_L19 h p f l2 l5 l6 l7 l8 l9) h p S (law : Int) (x : Int) a.1 a.2 (r : Int) else p_X9_holder_105 (fun l2 l5 l6 l7 l8 l9 => p_X9_holder_L19 h p f l2 l5 l6 l7 l8 l9) h p S (law : Int) (x : Int) (r : Int) e) = p_X9_holder_L19 h p f S (law : Int) (x : Int) a'.1 a'.2 ((r : Int) + 1) := by
        intro e he
        have take : ∀ (ht : hld (Sees n c H S x) (key law c H x) r = -9 ∨ key law c H x r < key law c H x (hld (Sees n c H S x) (key law c H x) r).toNat), ∃ a' : Int × Int, (a'.1 = hld (Sees n c H S x) (key law c H x) (r + 1) ∧ (a'.1 = -9 ∨ a'.2 = ((key law c H x a'.1.toNat : Nat) : Int))) ∧ p_X9_holder_105 (fun l2 l5 l6 l7 l8 l9 => p_X9_holder_L19 h p f l2 l5 l6 l7 l8 l9) h p S (law : Int) (x : Int) (r : Int) e = p_X9_holder_L19 h p f S (law : Int) (x : Int) a'.1 a'.2 ((r : Int) + 1) := by
          intro ht
          refine ⟨((r : Int), e), ⟨(hld_t ⟨q, ht⟩).symm, Or.inr (by simpa using he)⟩, ?_⟩
          unfold p_X9_holder_105 p_X9_holder_113
          rw [wr_1 (by omega)]
        by_cases z : a.1 = -9
        · rw [if_pos z]
          exact take (Or.inl (by rw [← i1]; exact z))
        · rw [if_neg z]
          have i2' : a.2 = ((key law c H x a.1.toNat : Nat) : Int) := by
            rcases i2 with y | y
            · exact absurd y z
            · exact y
          by_cases y : a.2 ≤ e
          · rw [if_pos y]
            refine ⟨a, ⟨?_, i2⟩, ?_⟩
            · rw [hld_f, ← i1]
              rintro ⟨-, t | t⟩
              · rw [← i1] at t; exact z t
              · rw [← i1] at t; omega
            · unfold p_X9_holder_113
              rw [wr_1 (by omega)]
          · rw [if_neg y]
            exact take (Or.inr (by rw [← i1]; omega))
      by_cases l0 : law = 0
      · rw [if_pos (by omega), gd_w (by omega), hc r hr', m_far h (by omega) (by omega)]
        simp only [bd_s]
        unfold p_X9_holder_81
        rw [gd_w (by omega), hH r hr']
        have ha : adf (c r).val x ≤ 9 := by unfold adf; split <;> omega
        rw [wr_s (a := ((adf (c r).val x : Nat) : Int) * 10) (by omega) (by omega), wr_s (by omega) (by omega)]
        refine hv _ ?_
        unfold key
        rw [if_pos l0]
        omega
      · rw [if_neg (by omega)]
        by_cases l1 : law = 1
        · rw [if_pos (by omega), gd_w (by omega), hH r hr', wr_s (a := 9 - ((H r).val : Int)) (by omega) (by omega)]
          unfold p_X9_holder_81
          rw [gd_w (by omega), hH r hr', wr_s (a := (9 - ((H r).val : Int)) * 10) (by omega) (by omega), wr_s (by omega) (by omega)]
          refine hv _ ?_
          unfold key
          rw [if_neg l0, if_pos l1]
          omega
        · rw [if_neg (by omega), gd_w (by omega), hH r hr']
          unfold p_X9_holder_81
          rw [gd_w (by omega), hH r hr', wr_s (a := ((H r).val : Int) * 10) (by omega) (by omega), wr_s (by omega) (by omega)]
          refine hv _ ?_
          unfold key
          rw [if_neg l0, if_neg l1]
          omega
    · rw [bi_f q, if_pos rfl]
      refine ⟨a, ⟨?_, i2⟩, ?_⟩
      · rw [hld_f (fun z => q z.1), ← i1]
      · unfold p_X9_holder_113
        rw [wr_1 (by omega)]
  · intro f a hI
    simp only [p_X9_holder_L19]
    unfold p_X9_holder_19
    rw [h5, if_pos (by omega), hI.1]
theorem m_pays (v : PV h p n c H ow sm) (w : MS h k ri sp wo) {s j : Nat} (hs : s < k) (hj : j < n) (S sm' : Int) : p_X9_pays h (s : Int) S sm' (j : Int) = some (((wo s).val - smk n c S sm' j : Nat) : Int) := by
  obtain ⟨hn, h5, hsm, hc, hH, ho⟩ := id v
  obtain ⟨hk, h6, hri, hsp, hwo⟩ := id w
  unfold p_X9_pays
  rw [gd_w (by omega), hwo s hs]
  have goal := loop_up (fun f i a => p_X9_pays_L11 h f S sm' (j : Int) a i) (fun i => ((wo s).val : Int) - ((cnt (fun o => bb S o = true ∧ bb sm' o = true ∧ adf (c o).val (c j).val ≤ 1) i : Nat) : Int)) n (some (((wo s).val - smk n c S sm' j : Nat) : Int)) (by
    intro f o hlt
    have hle := cnt_le (fun o => bb S o = true ∧ bb sm' o = true ∧ adf (c o).val (c j).val ≤ 1) o
    simp only [p_X9_pays_L11]
    unfold p_X9_pays_11
    rw [h5, if_neg (by omega), m_has h _ (by omega)]
    simp only [bd_s]
    rw [bb_and]
    by_cases z : bb S o = true ∧ bb sm' o = true
    · have hv : (if (bb S o && bb sm' o) = true then (1 : Int) else 0) = 1 := if_pos (by rw [z.1, z.2]; rfl)
      rw [hv, if_neg (by decide), gd_w (by omega), gd_w (by omega), hc o hlt, hc j hj, m_far h (by omega) (by omega)]
      simp only [bd_s]
      by_cases y : adf (c o).val (c j).val ≤ 1
      · rw [if_neg (by omega), cnt_t ⟨z.1, z.2, y⟩]
        unfold p_X9_pays_59
        rw [wr_1 (by omega), wr_s (by omega) (by omega)]
        congr 1
        omega
      · rw [if_pos (by omega), cnt_f (fun q => y q.2.2)]
        unfold p_X9_pays_58 p_X9_pays_59
        rw [wr_1 (by omega), wr_s (by omega) (by omega), Int.sub_zero]
    · have hv : (if (bb S o && bb sm' o) = true then (1 : Int) else 0) = 0 := if_neg (fun q => z (Bool.and_eq_true _ _ ▸ q))
      rw [hv, if_pos rfl, cnt_f (fun q => z ⟨q.1, q.2.1⟩)]
      unfold p_X9_pays_58 p_X9_pays_59
      rw [wr_1 (by omega), wr_s (by omega) (by omega), Int.sub_zero]) (by
    intro f
    have hle := cnt_le (fun o => bb S o = true ∧ bb sm' o = true ∧ adf (c o).val (c j).val ≤ 1) n
    simp only [p_X9_pays_L11]
    unfold p_X9_pays_11
    rw [h5, if_pos (by omega)]
    unfold p_X9_pays_68 smk
    split
    · congr 1; omega
    · congr 1; omega) 300 0 (Nat.zero_le _) (by omega)
  have e0 : ((wo s).val : Int) - ((cnt (fun o => bb S o = true ∧ bb sm' o = true ∧ adf (c o).val (c j).val ≤ 1) 0 : Nat) : Int) = ((wo s).val : Int) := by
    show _ - ((0 : Nat) : Int) = _
    omega
  simp only [e0] at goal
  exact goal
/-- rents: what a landlord's roofs (all: 4) get -/
theorem m_rentsOf (v : PV h p n c H ow sm) (w : MS h k ri sp wo) {fr m law : Nat} (hfr : fr < 50000) (hm : m ≤ 100) (S : Int) {o : Int} (ho : 0 ≤ o ∧ o ≤ 4) : p_X9_rentsOf h p S (fr : Int) (m : Int) o (law : Int) = some (TK n c H S sm law k ri sp wo (fun j => o = 4 ∨ ((ow j).val : Int) = o) (h p 11) fr m) := by
  obtain ⟨hn, h5, hsm, hc, hH, how⟩ := id v
  obtain ⟨hk, h6, hri, hsp, hwo⟩ := id w
  unfold p_X9_rentsOf
  by_cases hcl : h p 11 = 0
  · have e : TK n c H S sm law k ri sp wo (fun j => o = 4 ∨ ((ow j).val : Int) = o) (h p 11) fr m = sumF (fun i => PA n c H S sm law k ri sp wo (fun j => o = 4 ∨ ((ow j).val : Int) = o) (fr + i)) m := if_pos hcl
    rw [e]
    have goal := loop_up (fun f i a => p_X9_rentsOf_L6 h p f S (fr : Int) (m : Int) o (law : Int) a ((fr : Int) + i)) (sumF (fun i => PA n c H S sm law k ri sp wo (fun j => o = 4 ∨ ((ow j).val : Int) = o) (fr + i))) m (some (sumF (fun i => PA n c H S sm law k ri sp wo (fun j => o = 4 ∨ ((ow j).val : Int) = o) (fr + i)) m)) (by
      intro f i hi
      have hb := sumF_b (g := fun i => PA n c H S sm law k ri sp wo (fun j => o = 4 ∨ ((ow j).val : Int) = o) (fr + i)) (lo := 0) (hi := 36) (n := i) (fun s _ => PA_b n c H S sm law k ri sp wo _ _ hk)
      generalize hA : sumF (fun i => PA n c H S sm law k ri sp wo (fun j => o = 4 ∨ ((ow j).val : Int) = o) (fr + i)) i = A at hb
      simp only [p_X9_rentsOf_L6]
      unfold p_X9_rentsOf_6
      rw [wr_s (by omega) (by omega), if_neg (by omega), if_pos hcl]
      have inner : ∀ (f2 j : Nat) (a : Int), j ≤ k → k - j < f2 → a = A + sumF (fun s => get1 (HD n c H S law ri sp s (fr + i)) (fun j => o = 4 ∨ ((ow j).val : Int) = o) (wo s).val (smk n c S sm)) j → p_X9_rentsOf_L25 (fun (l2 l3 l4 l5 l6 l7 l8 : Int) => p_X9_rentsOf_L6 h p f l2 l3 l4 l5 l6 l7 l8) h p f2 S (fr : Int) (m : Int) o (law : Int) a ((fr : Int) + (i : Int)) (j : Int) = p_X9_rentsOf_L6 h p f S (fr : Int) (m : Int) o (law : Int) (A + PA n c H S sm law k ri sp wo (fun j => o = 4 ∨ ((ow j).val : Int) = o) (fr + i)) ((fr : Int) + ((i : Int) + 1)) := by
        refine loop_inv (fun f2 j a => p_X9_rentsOf_L25 (fun (l2 l3 l4 l5 l6 l7 l8 : Int) => p_X9_rentsOf_L6 h p f l2 l3 l4 l5 l6 l7 l8) h p f2 S (fr : Int) (m : Int) o (law : Int) a ((fr : Int) + (i : Int)) j) k (fun j a => a = A + sumF (fun s => get1 (HD n c H S law ri sp s (fr + i)) (fun j => o = 4 ∨ ((ow j).val : Int) = o) (wo s).val (smk n c S sm)) j) (fun z => z = p_X9_rentsOf_L6 h p f S (fr : Int) (m : Int) o (law : Int) (A + PA n c H S sm law k ri sp wo (fun j => o = 4 ∨ ((ow j).val : Int) = o) (fr + i)) ((fr : Int) + ((i : Int) + 1))) ?_ ?_
        · intro f2 s a hs hI
          subst hI
          have hb2 := sumF_b (g := fun s => get1 (HD n c H S law ri sp s (fr + i)) (fun j => o = 4 ∨ ((ow j).val : Int) = o) (wo s).val (smk n c S sm)) (lo := 0) (hi := 9) (n := s) (fun s _ => get1_b _ _ _ _)
          have hb3 := get1_b (HD n c H S law ri sp s (fr + i)) (fun j => o = 4 ∨ ((ow j).val : Int) = o) (wo s) (smk n c S sm)
          refine ⟨_, rfl, ?_⟩
          show p_X9_rentsOf_L25 _ h p (f2 + 1) S (fr : Int) (m : Int) o (law : Int) _ _ _ = p_X9_rentsOf_L25 _ h p f2 S (fr : Int) (m : Int) o (law : Int) (A + (sumF _ s + get1 (HD n c H S law ri sp s (fr + i)) (fun j => o = 4 ∨ ((ow j).val : Int) = o) (wo s).val (smk n c S sm))) _ _
          generalize hB : sumF (fun s => get1 (HD n c H S law ri sp s (fr + i)) (fun j => o = 4 ∨ ((ow j).val : Int) = o) (wo s).val (smk n c S sm)) s = B at hb2
          simp only [p_X9_rentsOf_L25]
          unfold p_X9_rentsOf_25
          rw [h6, if_neg (by omega), ← Int.natCast_add, m_holder v w hs (by omega)]
          simp only [bd_s]
          rcases HD_in n c H S law ri sp s (fr + i) with q | ⟨j, q1, q2, q3⟩
          · rw [if_pos q, get1_f (Or.inl q)]
            unfold p_X9_rentsOf_90
            rw [wr_1 (by omega), Int.add_zero]
          · rw [if_neg (by omega), q2]
            have pay : ∀ (hp : o = 4 ∨ ((ow j).val : Int) = o), p_X9_rentsOf_73 (fun (l2 l3 l4 l5 l6 l7 l8 : Int) => p_X9_rentsOf_L6 h p f l2 l3 l4 l5 l6 l7 l8) (fun (l2 l3 l4 l5 l6 l7 l8 l9 : Int) => p_X9_rentsOf_L25 (fun (l2 l3 l4 l5 l6 l7 l8 : Int) => p_X9_rentsOf_L6 h p f l2 l3 l4 l5 l6 l7 l8) h p f2 l2 l3 l4 l5 l6 l7 l8 l9) h p S (fr : Int) (m : Int) o (law : Int) (A + B) (((fr + i : Nat)) : Int) (s : Int) (j : Int) = p_X9_rentsOf_L25 (fun (l2 l3 l4 l5 l6 l7 l8 : Int) => p_X9_rentsOf_L6 h p f l2 l3 l4 l5 l6 l7 l8) h p f2 S (fr : Int) (m : Int) o (law : Int) (A + (B + get1 (HD n c H S law ri sp s (fr + i)) (fun j => o = 4 ∨ ((ow j).val : Int) = o) (wo s).val (smk n c S sm))) (((fr + i : Nat)) : Int) ((s : Int) + 1) := by
              intro hp
              unfold p_X9_rentsOf_73
              rw [hsm, m_pays v w hs q1]
              simp only [bd_s]
              rw [get1_t q2 hp] at hb3
              rw [get1_t q2 hp]
              unfold p_X9_rentsOf_90
              rw [wr_1 (by omega), wr_s (by omega) (by omega), Int.add_assoc]
            by_cases z : o = 4
            · rw [if_pos z]
              have := pay (Or.inl z)
              rw [q2] at this
              exact this
            · rw [if_neg z, wr_s (by omega) (by omega), gd_w (by omega), how j q1]
              by_cases y : ((ow j).val : Int) = o
              · rw [if_pos y]
                have := pay (Or.inr y)
                rw [q2] at this
                exact this
              · rw [if_neg y, get1_f (Or.inr (by simp only [Int.toNat_natCast]; intro q; rcases q with q | q; exact z q; exact y q))]
                unfold p_X9_rentsOf_90
                rw [wr_1 (by omega), Int.add_zero]
        · intro f2 a hI
          subst hI
          simp only [p_X9_rentsOf_L25]
          unfold p_X9_rentsOf_25
          rw [h6, if_pos (by omega)]
          unfold p_X9_rentsOf_96
          rw [← Int.natCast_add, wr_1 (by omega), Int.natCast_add, Int.add_assoc]
          rfl
      have := inner 300 0 A (Nat.zero_le _) (by omega) (by show A = A + 0; omega)
      refine Eq.trans this ?_
      show _ = p_X9_rentsOf_L6 h p f S (fr : Int) (m : Int) o (law : Int) (sumF _ i + _) _
      rw [hA]) (by
      intro f
      simp only [p_X9_rentsOf_L6]
      unfold p_X9_rentsOf_6
      rw [wr_s (by omega) (by omega), if_pos (by omega)]) 300 0 (Nat.zero_le _) (by omega)
    have e0 : (fr : Int) + ((0 : Nat) : Int) = (fr : Int) := by omega
    simp only [e0] at goal
    exact goal
  · have e : TK n c H S sm law k ri sp wo (fun j => o = 4 ∨ ((ow j).val : Int) = o) (h p 11) fr m = 0 := if_neg hcl
    rw [e]
    have all : ∀ f : Nat, p_X9_rentsOf_L6 h p (f + 1) S (fr : Int) (m : Int) o (law : Int) 0 (fr : Int) = some 0 := by
      intro f
      simp only [p_X9_rentsOf_L6]
      unfold p_X9_rentsOf_6
      rw [wr_s (by omega) (by omega)]
      by_cases hm0 : (fr : Int) + (m : Int) ≤ fr
      · rw [if_pos hm0]
      · rw [if_neg hm0, if_neg hcl]
    exact all 299
end MODEL
