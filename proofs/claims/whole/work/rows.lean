section
theorem pk_us {f : Nat → Int32} {k : Nat} {x : Int32} : upd f k x k = x := if_pos rfl
theorem pk_un {f : Nat → Int32} {k j : Nat} {x : Int32} (h : j ≠ k) : upd f k x j = f j := if_neg h
theorem pk_sub {a b : Nat} (h : b ≤ a) : nI a - nI b = nI (a - b) := by
  obtain ⟨c, rfl⟩ : ∃ c, a = c + b := ⟨a - b, by omega⟩
  rw [← nI_add, Int32.add_sub_cancel, Nat.add_sub_cancel]
theorem pk_mul (a b : Nat) : nI a * nI b = nI (a * b) := (Int32.ofNat_mul a b).symm
theorem pk_div {a d : Nat} (ha : a < 2 ^ 31) (h0 : 0 < d) (hd : d < 2 ^ 31) : nI a / nI d = nI (a / d) := by
  apply Int32.toInt_inj.mp
  rw [lg_idiv_nonneg (by rw [nI_toInt ha]; omega) (by rw [nI_toInt hd]; omega), nI_toInt ha, nI_toInt hd, nI_toInt (Nat.lt_of_le_of_lt (Nat.div_le_self a d) ha)]
  first | rfl | exact (Int.natCast_ediv _ _).symm
theorem pk_rem {a d : Nat} (ha : a < 2 ^ 31) (h0 : 0 < d) (hd : d < 2 ^ 31) : nI a - nI a / nI d * nI d = nI (a % d) := by
  rw [pk_div ha h0 hd, pk_mul, pk_sub (Nat.div_mul_le_self a d)]
  exact congrArg nI (by have := Nat.div_add_mod' a d; omega)
theorem pk_ix (x : Int32) {n : Nat} (hn : n < 2 ^ 31) : x < 0 ∨ nI n ≤ x ∨ ∃ j : Nat, j < n ∧ x = nI j := by
  by_cases h : x < 0
  · exact Or.inl h
  · obtain ⟨j, hj, rfl⟩ := nI_of h
    by_cases h2 : j < n
    · exact Or.inr (Or.inr ⟨j, h2, rfl⟩)
    · exact Or.inr (Or.inl (nI_le (by omega) hj))
theorem pk_le {x y : Int32} {A B : Prop} (a b : Nat) (f : a ≤ b → A) (g : b < a → B) (hx : x = nI a := by rfl) (hy : y = nI b := by rfl) (ha : a < 2 ^ 31 := by omega) (hb : b < 2 ^ 31 := by omega) : (x ≤ y → A) ∧ (¬ x ≤ y → B) := by
  subst hx hy
  rw [nI_leI ha hb]
  exact ⟨f, fun z => g (by omega)⟩
theorem pk_lt {x y : Int32} {A B : Prop} (a b : Nat) (f : a < b → A) (g : b ≤ a → B) (hx : x = nI a := by rfl) (hy : y = nI b := by rfl) (ha : a < 2 ^ 31 := by omega) (hb : b < 2 ^ 31 := by omega) : (x < y → A) ∧ (¬ x < y → B) := by
  subst hx hy
  rw [nI_ltI ha hb]
  exact ⟨f, fun z => g (by omega)⟩
theorem pk_eq {x y : Int32} {A B : Prop} (a b : Nat) (f : a = b → A) (g : a ≠ b → B) (hx : x = nI a := by rfl) (hy : y = nI b := by rfl) (ha : a < 2 ^ 31 := by omega) (hb : b < 2 ^ 31 := by omega) : (x = y → A) ∧ (¬ x = y → B) := by
  subst hx hy
  rw [nI_eq ha hb]
  exact ⟨f, g⟩
theorem pk_in {x : Int32} (n N : Nat) (h : n < N) (hx : x = nI n := by rfl) (hN : N < 2 ^ 31 := by omega) : vp_in x N := by
  subst hx
  exact vp_in_nI h hN
theorem pk_cl {x : Int32} (n : Nat) (hx : x = nI n := by rfl) (h : n < 2 ^ 31 := by omega) : x.toNatClampNeg = n := by
  subst hx
  exact nI_clamp h
theorem pk_tn {n : Nat} (h : n < 2 ^ 32) : (nI n).toBitVec.toNat = n := Nat.mod_eq_of_lt h
/-! ===== the numbers, the bits, the tables ===== -/
def cf_A (g : Nat → Nat) : Nat → Int32 := fun j => nI (g j)
def cf_S (g : Nat → Nat) : Prop := ∀ a b, a < 6 → b < 6 → g (6 * a + b) = g (6 * b + a)
def cf_t (c : Bool) (v : Nat) : Nat := bif c then v else 0
def cf_sp (s a b : Nat) : Bool := s.testBit a != s.testBit b
def cf_ft (s m o : Nat) : Bool := (s &&& m == m) && (s &&& o == 0)
theorem cf_bit : ∀ s, s < 64 → ∀ i, i < 6 → ((nI s >>> (nI i &&& 31)) &&& 1) = bif s.testBit i then 1 else 0 := by decide +kernel
theorem cf_shl : ∀ i, i < 6 → (1 : Int32) <<< (nI i &&& 31) = nI (2 ^ i) := by decide +kernel
theorem cf_pw : ∀ i, i < 6 → 2 ^ i < 64 ∧ 1 ≤ 2 ^ i ∧ 2 ^ i ≤ 62 := by decide +kernel
theorem cf_f1 : ∀ s, s < 64 → ∀ m, m < 64 → ((nI s &&& nI m) = nI m ↔ (s &&& m) = m) := by decide +kernel
theorem cf_f2 : ∀ s, s < 64 → ∀ m, m < 64 → ((nI s &&& nI m) = 0 ↔ (s &&& m) = 0) := by decide +kernel
theorem cf_f3 : ∀ s, s < 64 → ∀ m, m < 64 → ((nI m &&& (nI s ^^^ (-1))) = 0 ↔ (s &&& m) = m) := by decide +kernel
theorem cf_f4 : ∀ s, s < 64 → ∀ m, m < 64 → ((nI m &&& nI s) = 0 ↔ (s &&& m) = 0) := by decide +kernel
theorem cf_odd : ∀ s, s < 64 → ((nI s &&& 1) = 1 ↔ s % 2 = 1) := by decide +kernel
theorem cf_ftb : ∀ s, s < 64 → ∀ a, a < 6 → ∀ b, b < 6 → cf_ft s (2 ^ a) (2 ^ b) = (s.testBit a && !s.testBit b) := by decide +kernel
theorem cf_ftx : ∀ a, a < 6 → ∀ b, b < 6 → a ≠ b → cf_ft (2 ^ a) (2 ^ a) (2 ^ b) = true := by decide +kernel
theorem cf_co : ∀ s, s < 64 → ∀ a, a < 6 → ∀ b, b < 6 → cf_sp (63 - s) a b = cf_sp s a b := by decide +kernel
theorem cf_spc (s a b : Nat) : cf_sp s a b = cf_sp s b a := by
  unfold cf_sp
  cases s.testBit a <;> cases s.testBit b <;> rfl
theorem cf_ix (a b : Nat) : nI a * 6 + nI b = nI (6 * a + b) := by
  show nI a * nI 6 + nI b = _
  rw [pk_mul, nI_add, Nat.mul_comm]
theorem cf_iy (a b : Nat) : 6 * nI a + nI b = nI (6 * a + b) := by
  show nI 6 * nI a + nI b = _
  rw [pk_mul, nI_add]
theorem cf_nm {v : Nat} (h : v < 2 ^ 31) : ¬ nI v = -1 := fun z => nI_pos h (by rw [z]; decide)
theorem cf_m1 : (-1 : Int32) < 0 := by decide
theorem cf_10 : ¬ (1 : Int32) = 0 := by decide
theorem cf_60 : ¬ (6 : Int32) = 0 := by decide
/-! ===== splits and fits ===== -/
theorem cf_splits {post : Int32 → Prop} {s a b : Nat} (hs : s < 64) (ha : a < 6) (hb : b < 6) (h1 : cf_sp s a b = true → post 1) (h0 : cf_sp s a b = false → post 0) : wpX_splits post (nI s) (nI a) (nI b) := by
  unfold wpX_splits
  rw [cf_bit s hs a ha, cf_bit s hs b hb]
  unfold cf_sp at h1 h0
  revert h1 h0
  cases s.testBit a <;> cases s.testBit b <;> intro h1 h0 <;> first | exact br_t rfl (h0 rfl) | exact br_f (by decide) (h1 rfl)
theorem cf_fits {post : Int32 → Prop} {s m o : Nat} (hs : s < 64) (hm : m < 64) (ho : o < 64) (h1 : cf_ft s m o = true → post 1) (h0 : cf_ft s m o = false → post 0) : wpX_fits post (nI s) (nI m) (nI o) := by
  unfold wpX_fits
  by_cases h : s &&& m = m
  · refine br_t ((cf_f1 s hs m hm).mpr h) ?_
    by_cases h' : s &&& o = 0
    · exact br_t ((cf_f2 s hs o ho).mpr h') (h1 (by simp [cf_ft, h, h']))
    · exact br_f (fun z => h' ((cf_f2 s hs o ho).mp z)) (h0 (by simp [cf_ft, h']))
  · exact br_f (fun z => h ((cf_f1 s hs m hm).mp z)) (h0 (by simp [cf_ft, h]))
/-! ===== the pairs of places ===== -/
def cf_np (p q : Int32) : Prop := ∀ a b : Nat, a < 6 → b < 6 → p = nI a → q = nI b → a = b
theorem cf_dec (p q : Int32) : cf_np p q ∨ ∃ a b : Nat, a < 6 ∧ b < 6 ∧ a ≠ b ∧ p = nI a ∧ q = nI b := by
  by_cases h : ∃ a b : Nat, a < 6 ∧ b < 6 ∧ a ≠ b ∧ p = nI a ∧ q = nI b
  · exact Or.inr h
  · refine Or.inl fun a b ha hb e f => ?_
    by_cases z : a = b
    · exact z
    · exact absurd ⟨a, b, ha, hb, z, e, f⟩ h
theorem cf_ge {p : Int32} (h : ¬ p < 0) (h5 : ¬ (6 : Int32) ≤ p) : ∃ a : Nat, a < 6 ∧ p = nI a := by
  rcases pk_ix p (n := 6) (by decide) with z | z | z
  · exact absurd z h
  · exact absurd z h5
  · exact z
theorem cf_ge5 {p : Int32} (h : ¬ p < 0) (h5 : ¬ (5 : Int32) < p) : ∃ a : Nat, a < 6 ∧ p = nI a := by
  obtain ⟨j, hj, rfl⟩ := nI_of h
  by_cases z : j < 6
  · exact ⟨j, z, rfl⟩
  · exact absurd (nI_lt (a := 5) (b := j) (by omega) hj) h5
theorem cf_plX {post : Int32 → Prop} {a : Nat} (ha : a < 6) (h : post 1) : wpX_isPlace post (nI a) := br_f (nI_pos (by omega)) (br_f (nI_ge (b := 6) ha (by decide)) h)
theorem cf_pX1 {post : Int32 → Prop} {a b : Nat} (ha : a < 6) (hb : b < 6) (hn : a ≠ b) (h : post 1) : wpX_isPair post (nI a) (nI b) := by
  unfold wpX_isPair
  refine cf_plX ha (br_f cf_10 (cf_plX hb (br_f cf_10 (br_f (fun z => hn ((nI_eq (by omega) (by omega)).mp z)) h))))
theorem cf_pX0 {post : Int32 → Prop} {p q : Int32} (hn : cf_np p q) (h : post 0) : wpX_isPair post p q := by
  unfold wpX_isPair wpX_isPlace
  by_cases h1 : p < 0
  · exact br_t h1 (br_t rfl h)
  by_cases h2 : (6 : Int32) ≤ p
  · exact br_f h1 (br_t h2 (br_t rfl h))
  refine br_f h1 (br_f h2 (br_f cf_10 ?_))
  by_cases h3 : q < 0
  · exact br_t h3 (br_t rfl h)
  by_cases h4 : (6 : Int32) ≤ q
  · exact br_f h3 (br_t h4 (br_t rfl h))
  obtain ⟨a, ha, ea⟩ := cf_ge h1 h2
  obtain ⟨b, hb, eb⟩ := cf_ge h3 h4
  refine br_f h3 (br_f h4 (br_f cf_10 (br_t ?_ h)))
  rw [ea, eb, hn a b ha hb ea eb]
theorem cf_pY1 {post : Int32 → Prop} {v : SY} {a b : Nat} (ha : a < 6) (hb : b < 6) (hn : a ≠ b) (h : post 1) : wpY_pair post v (nI a) (nI b) := by
  unfold wpY_pair
  exact br_f (fun z => hn ((nI_eq (by omega) (by omega)).mp z)) (br_f (nI_pos (by omega)) (br_f (nI_nlt (a := 5) (by omega) (by decide)) (br_f (nI_pos (by omega)) (br_f (nI_nlt (a := 5) (by omega) (by decide)) h))))
theorem cf_pY0 {post : Int32 → Prop} {v : SY} {p q : Int32} (hn : cf_np p q) (h : post 0) : wpY_pair post v p q := by
  unfold wpY_pair
  by_cases h0 : p = q
  · exact br_t h0 h
  by_cases h1 : p < 0
  · exact br_f h0 (br_t h1 h)
  by_cases h2 : (5 : Int32) < p
  · exact br_f h0 (br_f h1 (br_t h2 h))
  by_cases h3 : q < 0
  · exact br_f h0 (br_f h1 (br_f h2 (br_t h3 h)))
  by_cases h4 : (5 : Int32) < q
  · exact br_f h0 (br_f h1 (br_f h2 (br_f h3 (br_t h4 h))))
  obtain ⟨a, ha, ea⟩ := cf_ge5 h1 h2
  obtain ⟨b, hb, eb⟩ := cf_ge5 h3 h4
  exact absurd (by rw [ea, eb, hn a b ha hb ea eb]) h0
end
