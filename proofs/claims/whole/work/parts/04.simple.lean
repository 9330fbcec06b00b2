/-! ===== the relation; set, capacity, cost, least, between, forced ===== -/
/-- one table of naturals up to 30, the same in both orders of a pair, is what both sides hold -/
def i_Rel (_ : Nat) (u : SX) (v : SY) : Prop := ∃ g : Nat → Nat, u = cf_A g ∧ v = cf_A g ∧ (∀ j, g j ≤ 30) ∧ cf_S g
theorem i_up {k : Nat} {u : SX} {v : SY} (h : i_Rel k u v) : i_Rel (k + 5) u v := h
theorem i_vc0 : wpX_init (fun u => wpY_init (fun v => i_Rel 0 u v)) := ⟨fun _ => 0, rfl, rfl, fun _ => Nat.zero_le _, fun _ _ _ _ => rfl⟩
theorem cf_31 {g : Nat → Nat} (h : ∀ j, g j ≤ 30) : ∀ j, g j ≤ 31 := fun j => Nat.le_succ_of_le (h j)
theorem cf_rel {k : Nat} {g : Nat → Nat} (h : ∀ j, g j ≤ 30) (hs : cf_S g) : i_Rel k (cf_A g) (cf_A g) := ⟨g, rfl, rfl, h, hs⟩
theorem cf_putY {post : SY → Prop} {g : Nat → Nat} {a b c : Nat} (ha : a < 6) (hb : b < 6) (h : post (cf_A (cf_put g a b c))) : wpY_put post (cf_A g) (nI a) (nI b) (nI c) := by
  unfold wpY_put
  refine ⟨pk_in (6 * a + b) 36 (by omega) (cf_iy a b), nm_r (e' := upd (cf_A g) (6 * a + b) (nI c)) (by rw [cf_iy, nI_clamp (by omega)]) ⟨pk_in (6 * b + a) 36 (by omega) (cf_iy b a), nm_r (e' := cf_A (cf_put g a b c)) (by rw [cf_iy, nI_clamp (by omega), cf_putA]) h⟩⟩
theorem i_vc_set {k : Nat} {u : SX} {v : SY} (I : i_Rel k u v) (hk : k + 5 ≤ 2560) (v1 : Int32) (v2 : Int32) (v3 : Int32) : wpX_set (fun r u' => wpY_set (fun r' v' => r' = r ∧ i_Rel (k + 5) u' v') v v1 v2 v3) u v1 v2 v3 := by
  obtain ⟨g, rfl, rfl, hg, hs⟩ := I
  have R : i_Rel (k + 5) (cf_A g) (cf_A g) := cf_rel hg hs
  unfold wpX_set wpY_set
  rcases cf_dec v1 v2 with hn | ⟨a, b, ha, hb, hn, rfl, rfl⟩
  · exact cf_pX0 hn (br_t rfl (cf_pY0 hn (br_t rfl ⟨rfl, R⟩)))
  · by_cases h0 : v3 < 0
    · exact cf_pX1 ha hb hn (br_f cf_10 (br_t h0 (cf_pY1 ha hb hn (br_f cf_10 (br_t h0 ⟨rfl, R⟩)))))
    · by_cases h3 : v3 ≤ 30
      · obtain ⟨c, hc, rfl⟩ := nI_of2 (M := 30) (n := 30) (by decide) h0 h3
        refine cf_pX1 ha hb hn (br_f cf_10 (br_f h0 (br_t h3 ⟨pk_in (6 * a + b) 36 (by omega) (cf_ix a b), nm_r (e' := upd (cf_A g) (6 * a + b) (nI c)) (by rw [cf_ix, nI_clamp (by omega)]) ⟨pk_in (6 * b + a) 36 (by omega) (cf_ix b a), nm_r (e' := cf_A (cf_put g a b c)) (by rw [cf_ix, nI_clamp (by omega), cf_putA]) ?_⟩⟩)))
        exact cf_pY1 ha hb hn (br_f cf_10 (br_f h0 (br_t h3 (cf_putY ha hb ⟨rfl, cf_rel (cf_putb hg hc a b) (cf_puts hs a b c ha hb)⟩))))
      · exact cf_pX1 ha hb hn (br_f cf_10 (br_f h0 (br_f h3 (cf_pY1 ha hb hn (br_f cf_10 (br_f h0 (br_f h3 ⟨rfl, R⟩)))))))
theorem i_vc_capacity {k : Nat} {u : SX} {v : SY} (I : i_Rel k u v) (hk : k + 5 ≤ 2560) (v1 : Int32) (v2 : Int32) : wpX_capacity (fun r => wpY_capacity (fun r' => r' = r ∧ i_Rel (k + 5) u v) v v1 v2) u v1 v2 := by
  obtain ⟨g, rfl, rfl, hg, hs⟩ := I
  have R : i_Rel (k + 5) (cf_A g) (cf_A g) := cf_rel hg hs
  unfold wpX_capacity wpY_capacity
  rcases cf_dec v1 v2 with hn | ⟨a, b, ha, hb, hn, rfl, rfl⟩
  · exact cf_pX0 hn (br_t rfl (cf_pY0 hn (br_t rfl ⟨rfl, R⟩)))
  · refine cf_pX1 ha hb hn (br_f cf_10 ⟨pk_in (6 * a + b) 36 (by omega) (cf_ix a b), cf_pY1 ha hb hn (br_f cf_10 ⟨pk_in (6 * a + b) 36 (by omega) (cf_iy a b), ?_, R⟩)⟩)
    rw [cf_ix, cf_iy]
theorem cf_63 {p : Int32} (h : ¬ p < 0) (h5 : ¬ (63 : Int32) < p) : ∃ a : Nat, a < 64 ∧ p = nI a := by
  obtain ⟨j, hj, rfl⟩ := nI_of h
  by_cases z : j < 64
  · exact ⟨j, z, rfl⟩
  · exact absurd (nI_lt (a := 63) (b := j) (by omega) hj) h5
theorem i_vc_cost {k : Nat} {u : SX} {v : SY} (I : i_Rel k u v) (hk : k + 5 ≤ 2560) (v1 : Int32) : wpX_cost (fun r => wpY_cost (fun r' => r' = r ∧ i_Rel (k + 5) u v) v v1) u v1 := by
  obtain ⟨g, rfl, rfl, hg, hs⟩ := I
  have R : i_Rel (k + 5) (cf_A g) (cf_A g) := cf_rel hg hs
  unfold wpX_cost wpY_cost
  by_cases h1 : v1 < 1
  · exact br_t h1 (br_t h1 ⟨rfl, R⟩)
  · have h0 : ¬ v1 < 0 := by
      intro z
      rw [Int32.lt_iff_toInt_lt] at z h1
      rw [show (0 : Int32).toInt = 0 from by decide] at z
      rw [show (1 : Int32).toInt = 1 from by decide] at h1
      omega
    obtain ⟨j, hj, rfl⟩ := nI_of h0
    by_cases z : j < 63
    · exact br_f h1 (br_t (nI_lt (b := 63) z (by decide)) (cf_costX (by omega) (br_f h1 (br_f (nI_nlt (a := 62) (by omega) (by decide)) (cf_costY hs (by omega) ⟨rfl, R⟩)))))
    · exact br_f h1 (br_f (nI_nlt (b := 63) (by omega) hj) (br_f h1 (br_t (nI_lt (a := 62) (by omega) hj) ⟨rfl, R⟩)))
theorem i_vc_least {k : Nat} {u : SX} {v : SY} (I : i_Rel k u v) (hk : k + 5 ≤ 2560) : wpX_least (fun r => wpY_least (fun r' => r' = r ∧ i_Rel (k + 5) u v) v) u := by
  obtain ⟨g, rfl, rfl, hg, hs⟩ := I
  have R : i_Rel (k + 5) (cf_A g) (cf_A g) := cf_rel hg hs
  unfold wpX_least wpY_least
  refine cf_leastX (m := 0) (o := 0) (cf_31 hg) (by decide) (by decide) ?_
  exact cf_leastY (m := 0) (o := 0) (cf_31 hg) hs (by decide) (by decide) ⟨rfl, R⟩
theorem i_vc_between {k : Nat} {u : SX} {v : SY} (I : i_Rel k u v) (hk : k + 5 ≤ 2560) (v1 : Int32) (v2 : Int32) : wpX_between (fun r => wpY_between (fun r' => r' = r ∧ i_Rel (k + 5) u v) v v1 v2) u v1 v2 := by
  obtain ⟨g, rfl, rfl, hg, hs⟩ := I
  have R : i_Rel (k + 5) (cf_A g) (cf_A g) := cf_rel hg hs
  unfold wpX_between
  rcases cf_dec v1 v2 with hn | ⟨a, b, ha, hb, hn, rfl, rfl⟩
  · refine cf_pX0 hn (br_t rfl ?_)
    unfold wpY_between
    exact cf_pY0 hn (br_t rfl ⟨rfl, R⟩)
  · exact cf_pX1 ha hb hn (br_f cf_10 (cf_lcX (cf_31 hg) ha hb (cf_btY (cf_31 hg) hs ha hb hn ⟨rfl, R⟩)))
theorem cf_mk1 : ∀ j, j < 64 → (nI j &&& (-64)) = 0 := by decide +kernel
theorem cf_mk2 : ∀ i, i < 32 → 6 ≤ i → (-64 : Int32).toBitVec.getLsbD i = true := by decide +kernel
theorem cf_mk {p : Int32} (h : (p &&& (-64)) = 0) : ∃ j : Nat, j < 64 ∧ p = nI j := by
  have hb : ∀ i, 6 ≤ i → p.toBitVec.toNat.testBit i = false := by
    intro i hi
    by_cases h32 : i < 32
    · have e : (p &&& (-64)).toBitVec.getLsbD i = (0 : Int32).toBitVec.getLsbD i := by rw [h]
      rw [Int32.toBitVec_and, BitVec.getLsbD_and, cf_mk2 i h32 hi, Bool.and_true] at e
      have e0 : (0 : Int32).toBitVec.getLsbD i = false := by
        show (0#32).getLsbD i = false
        exact BitVec.getLsbD_zero
      rw [e0] at e
      exact e
    · exact Nat.testBit_lt_two_pow (Nat.lt_of_lt_of_le p.toBitVec.isLt (Nat.pow_le_pow_right (by decide) (by omega)))
  have hl : p.toBitVec.toNat < 2 ^ 6 := Nat.lt_pow_two_of_testBit _ hb
  refine ⟨p.toBitVec.toNat, by omega, ?_⟩
  apply Int32.toBitVec_inj.mp
  apply BitVec.eq_of_toNat_eq
  rw [pk_tn (by omega)]
theorem cf_mkn {p : Int32} (h : p < 0 ∨ (63 : Int32) < p) : ¬ (p &&& (-64)) = 0 := by
  intro z
  obtain ⟨j, hj, rfl⟩ := cf_mk z
  rcases h with h | h
  · exact nI_pos (by omega) h
  · exact nI_nlt (a := 63) (by omega) (by decide) h
theorem cf_le63 {p : Int32} (h : ¬ (63 : Int32) < p) : p ≤ 63 := Int32.not_lt.mp h
theorem i_vc_forced {k : Nat} {u : SX} {v : SY} (I : i_Rel k u v) (hk : k + 5 ≤ 2560) (v1 : Int32) (v2 : Int32) : wpX_forced (fun r => wpY_forced (fun r' => r' = r ∧ i_Rel (k + 5) u v) v v1 v2) u v1 v2 := by
  obtain ⟨g, rfl, rfl, hg, hs⟩ := I
  have R : i_Rel (k + 5) (cf_A g) (cf_A g) := cf_rel hg hs
  unfold wpX_forced wpY_forced
  by_cases a0 : v1 < 0
  · exact br_f (cf_mkn (Or.inl a0)) (br_t a0 ⟨rfl, R⟩)
  by_cases a1 : (63 : Int32) < v1
  · exact br_f (cf_mkn (Or.inr a1)) (br_f a0 (br_t a1 ⟨rfl, R⟩))
  obtain ⟨m, hm, rfl⟩ := cf_63 a0 a1
  refine br_t (cf_mk1 m hm) ?_
  by_cases b0 : v2 < 0
  · exact br_f (cf_mkn (Or.inl b0)) (br_f a0 (br_f a1 (br_t b0 ⟨rfl, R⟩)))
  by_cases b1 : (63 : Int32) < v2
  · exact br_f (cf_mkn (Or.inr b1)) (br_f a0 (br_f a1 (br_f b0 (br_f (fun z => absurd b1 (Int32.not_lt.mpr z)) ⟨rfl, R⟩))))
  obtain ⟨o, ho, rfl⟩ := cf_63 b0 b1
  exact br_t (cf_mk1 o ho) (cf_leastX (cf_31 hg) hm ho (br_f a0 (br_f a1 (br_f b0 (br_t (cf_le63 b1) (cf_leastY (cf_31 hg) hs hm ho ⟨rfl, R⟩))))))
