section
theorem pk_us {f : Nat → Int32} {k : Nat} {x : Int32} : upd f k x k = x := if_pos rfl
theorem pk_un {f : Nat → Int32} {k j : Nat} {x : Int32} (h : j ≠ k) : upd f k x j = f j := if_neg h
theorem pk_sub {a b : Nat} (h : b ≤ a) : nI a - nI b = nI (a - b) := by
  obtain ⟨c, rfl⟩ : ∃ c, a = c + b := ⟨a - b, by omega⟩
  rw [← nI_add, Int32.add_sub_cancel, Nat.add_sub_cancel]
theorem pk_mul (a b : Nat) : nI a * nI b = nI (a * b) := (Int32.ofNat_mul a b).symm
theorem pk_div {a d : Nat} (ha : a < 2 ^ 31) (h0 : 0 < d) (hd : d < 2 ^ 31) : nI a / nI d = nI (a / d) := by
  apply Int32.toInt_inj.mp
  rw [lg_idiv_nonneg (by rw [nI_toInt ha]; omega) (by rw [nI_toInt hd]; omega), nI_toInt ha, nI_toInt hd, nI_toInt (Nat.lt_of_le_of_lt (Nat.div_le_self a d) ha)]
  first | rfl | exact (Int.natCast_ediv _ _).symm
theorem pk_rem {a d : Nat} (ha : a < 2 ^ 31) (h0 : 0 < d) (hd : d < 2 ^ 31) : nI a - nI a / nI d * nI d = nI (a % d) := by
  rw [pk_div ha h0 hd, pk_mul, pk_sub (Nat.div_mul_le_self a d)]
  exact congrArg nI (by have := Nat.div_add_mod' a d; omega)
theorem pk_ix (x : Int32) {n : Nat} (hn : n < 2 ^ 31) : x < 0 ∨ nI n ≤ x ∨ ∃ j : Nat, j < n ∧ x = nI j := by
  by_cases h : x < 0
  · exact Or.inl h
  · obtain ⟨j, hj, rfl⟩ := nI_of h
    by_cases h2 : j < n
    · exact Or.inr (Or.inr ⟨j, h2, rfl⟩)
    · exact Or.inr (Or.inl (nI_le (by omega) hj))
theorem pk_le {x y : Int32} {A B : Prop} (a b : Nat) (f : a ≤ b → A) (g : b < a → B) (hx : x = nI a := by rfl) (hy : y = nI b := by rfl) (ha : a < 2 ^ 31 := by omega) (hb : b < 2 ^ 31 := by omega) : (x ≤ y → A) ∧ (¬ x ≤ y → B) := by
  subst hx hy
  rw [nI_leI ha hb]
  exact ⟨f, fun z => g (by omega)⟩
theorem pk_lt {x y : Int32} {A B : Prop} (a b : Nat) (f : a < b → A) (g : b ≤ a → B) (hx : x = nI a := by rfl) (hy : y = nI b := by rfl) (ha : a < 2 ^ 31 := by omega) (hb : b < 2 ^ 31 := by omega) : (x < y → A) ∧ (¬ x < y → B) := by
  subst hx hy
  rw [nI_ltI ha hb]
  exact ⟨f, fun z => g (by omega)⟩
theorem pk_eq {x y : Int32} {A B : Prop} (a b : Nat) (f : a = b → A) (g : a ≠ b → B) (hx : x = nI a := by rfl) (hy : y = nI b := by rfl) (ha : a < 2 ^ 31 := by omega) (hb : b < 2 ^ 31 := by omega) : (x = y → A) ∧ (¬ x = y → B) := by
  subst hx hy
  rw [nI_eq ha hb]
  exact ⟨f, g⟩
theorem pk_in {x : Int32} (n N : Nat) (h : n < N) (hx : x = nI n := by rfl) (hN : N < 2 ^ 31 := by omega) : vp_in x N := by
  subst hx
  exact vp_in_nI h hN
theorem pk_cl {x : Int32} (n : Nat) (hx : x = nI n := by rfl) (h : n < 2 ^ 31 := by omega) : x.toNatClampNeg = n := by
  subst hx
  exact nI_clamp h
theorem pk_tn {n : Nat} (h : n < 2 ^ 32) : (nI n).toBitVec.toNat = n := Nat.mod_eq_of_lt h
/-! ===== the numbers, the bits, the tables ===== -/
def cf_A (g : Nat → Nat) : Nat → Int32 := fun j => nI (g j)
def cf_S (g : Nat → Nat) : Prop := ∀ a b, a < 6 → b < 6 → g (6 * a + b) = g (6 * b + a)
def cf_t (c : Bool) (v : Nat) : Nat := bif c then v else 0
def cf_sp (s a b : Nat) : Bool := s.testBit a != s.testBit b
def cf_ft (s m o : Nat) : Bool := (s &&& m == m) && (s &&& o == 0)
theorem cf_bit : ∀ s, s < 64 → ∀ i, i < 6 → ((nI s >>> (nI i &&& 31)) &&& 1) = bif s.testBit i then 1 else 0 := by decide +kernel
theorem cf_shl : ∀ i, i < 6 → (1 : Int32) <<< (nI i &&& 31) = nI (2 ^ i) := by decide +kernel
theorem cf_pw : ∀ i, i < 6 → 2 ^ i < 64 ∧ 1 ≤ 2 ^ i ∧ 2 ^ i ≤ 62 := by decide +kernel
theorem cf_f1 : ∀ s, s < 64 → ∀ m, m < 64 → ((nI s &&& nI m) = nI m ↔ (s &&& m) = m) := by decide +kernel
theorem cf_f2 : ∀ s, s < 64 → ∀ m, m < 64 → ((nI s &&& nI m) = 0 ↔ (s &&& m) = 0) := by decide +kernel
theorem cf_f3 : ∀ s, s < 64 → ∀ m, m < 64 → ((nI m &&& (nI s ^^^ (-1))) = 0 ↔ (s &&& m) = m) := by decide +kernel
theorem cf_f4 : ∀ s, s < 64 → ∀ m, m < 64 → ((nI m &&& nI s) = 0 ↔ (s &&& m) = 0) := by decide +kernel
theorem cf_odd : ∀ s, s < 64 → ((nI s &&& 1) = 1 ↔ s % 2 = 1) := by decide +kernel
theorem cf_ftb : ∀ s, s < 64 → ∀ a, a < 6 → ∀ b, b < 6 → cf_ft s (2 ^ a) (2 ^ b) = (s.testBit a && !s.testBit b) := by decide +kernel
theorem cf_ftx : ∀ a, a < 6 → ∀ b, b < 6 → a ≠ b → cf_ft (2 ^ a) (2 ^ a) (2 ^ b) = true := by decide +kernel
theorem cf_co : ∀ s, s < 64 → ∀ a, a < 6 → ∀ b, b < 6 → cf_sp (63 - s) a b = cf_sp s a b := by decide +kernel
theorem cf_spc (s a b : Nat) : cf_sp s a b = cf_sp s b a := by
  unfold cf_sp
  cases s.testBit a <;> cases s.testBit b <;> rfl
theorem cf_ix (a b : Nat) : nI a * 6 + nI b = nI (6 * a + b) := by
  show nI a * nI 6 + nI b = _
  rw [pk_mul, nI_add, Nat.mul_comm]
theorem cf_iy (a b : Nat) : 6 * nI a + nI b = nI (6 * a + b) := by
  show nI 6 * nI a + nI b = _
  rw [pk_mul, nI_add]
theorem cf_nm {v : Nat} (h : v < 2 ^ 31) : ¬ nI v = -1 := fun z => nI_pos h (by rw [z]; decide)
theorem cf_m1 : (-1 : Int32) < 0 := by decide
theorem cf_10 : ¬ (1 : Int32) = 0 := by decide
theorem cf_60 : ¬ (6 : Int32) = 0 := by decide
/-! ===== splits and fits ===== -/
theorem cf_splits {post : Int32 → Prop} {s a b : Nat} (hs : s < 64) (ha : a < 6) (hb : b < 6) (h1 : cf_sp s a b = true → post 1) (h0 : cf_sp s a b = false → post 0) : wpX_splits post (nI s) (nI a) (nI b) := by
  unfold wpX_splits
  rw [cf_bit s hs a ha, cf_bit s hs b hb]
  unfold cf_sp at h1 h0
  revert h1 h0
  cases s.testBit a <;> cases s.testBit b <;> intro h1 h0 <;> first | exact br_t rfl (h0 rfl) | exact br_f (by decide) (h1 rfl)
theorem cf_fits {post : Int32 → Prop} {s m o : Nat} (hs : s < 64) (hm : m < 64) (ho : o < 64) (h1 : cf_ft s m o = true → post 1) (h0 : cf_ft s m o = false → post 0) : wpX_fits post (nI s) (nI m) (nI o) := by
  unfold wpX_fits
  by_cases h : s &&& m = m
  · refine br_t ((cf_f1 s hs m hm).mpr h) ?_
    by_cases h' : s &&& o = 0
    · exact br_t ((cf_f2 s hs o ho).mpr h') (h1 (by simp [cf_ft, h, h']))
    · exact br_f (fun z => h' ((cf_f2 s hs o ho).mp z)) (h0 (by simp [cf_ft, h']))
  · exact br_f (fun z => h ((cf_f1 s hs m hm).mp z)) (h0 (by simp [cf_ft, h]))
/-! ===== the pairs of places ===== -/
def cf_np (p q : Int32) : Prop := ∀ a b : Nat, a < 6 → b < 6 → p = nI a → q = nI b → a = b
theorem cf_dec (p q : Int32) : cf_np p q ∨ ∃ a b : Nat, a < 6 ∧ b < 6 ∧ a ≠ b ∧ p = nI a ∧ q = nI b := by
  by_cases h : ∃ a b : Nat, a < 6 ∧ b < 6 ∧ a ≠ b ∧ p = nI a ∧ q = nI b
  · exact Or.inr h
  · refine Or.inl fun a b ha hb e f => ?_
    by_cases z : a = b
    · exact z
    · exact absurd ⟨a, b, ha, hb, z, e, f⟩ h
theorem cf_ge {p : Int32} (h : ¬ p < 0) (h5 : ¬ (6 : Int32) ≤ p) : ∃ a : Nat, a < 6 ∧ p = nI a := by
  rcases pk_ix p (n := 6) (by decide) with z | z | z
  · exact absurd z h
  · exact absurd z h5
  · exact z
theorem cf_ge5 {p : Int32} (h : ¬ p < 0) (h5 : ¬ (5 : Int32) < p) : ∃ a : Nat, a < 6 ∧ p = nI a := by
  obtain ⟨j, hj, rfl⟩ := nI_of h
  by_cases z : j < 6
  · exact ⟨j, z, rfl⟩
  · exact absurd (nI_lt (a := 5) (b := j) (by omega) hj) h5
theorem cf_plX {post : Int32 → Prop} {a : Nat} (ha : a < 6) (h : post 1) : wpX_isPlace post (nI a) := br_f (nI_pos (by omega)) (br_f (nI_ge (b := 6) ha (by decide)) h)
theorem cf_pX1 {post : Int32 → Prop} {a b : Nat} (ha : a < 6) (hb : b < 6) (hn : a ≠ b) (h : post 1) : wpX_isPair post (nI a) (nI b) := by
  unfold wpX_isPair
  refine cf_plX ha (br_f cf_10 (cf_plX hb (br_f cf_10 (br_f (fun z => hn ((nI_eq (by omega) (by omega)).mp z)) h))))
theorem cf_pX0 {post : Int32 → Prop} {p q : Int32} (hn : cf_np p q) (h : post 0) : wpX_isPair post p q := by
  unfold wpX_isPair wpX_isPlace
  by_cases h1 : p < 0
  · exact br_t h1 (br_t rfl h)
  by_cases h2 : (6 : Int32) ≤ p
  · exact br_f h1 (br_t h2 (br_t rfl h))
  refine br_f h1 (br_f h2 (br_f cf_10 ?_))
  by_cases h3 : q < 0
  · exact br_t h3 (br_t rfl h)
  by_cases h4 : (6 : Int32) ≤ q
  · exact br_f h3 (br_t h4 (br_t rfl h))
  obtain ⟨a, ha, ea⟩ := cf_ge h1 h2
  obtain ⟨b, hb, eb⟩ := cf_ge h3 h4
  refine br_f h3 (br_f h4 (br_f cf_10 (br_t ?_ h)))
  rw [ea, eb, hn a b ha hb ea eb]
theorem cf_pY1 {post : Int32 → Prop} {v : SY} {a b : Nat} (ha : a < 6) (hb : b < 6) (hn : a ≠ b) (h : post 1) : wpY_pair post v (nI a) (nI b) := by
  unfold wpY_pair
  exact br_f (fun z => hn ((nI_eq (by omega) (by omega)).mp z)) (br_f (nI_pos (by omega)) (br_f (nI_nlt (a := 5) (by omega) (by decide)) (br_f (nI_pos (by omega)) (br_f (nI_nlt (a := 5) (by omega) (by decide)) h))))
theorem cf_pY0 {post : Int32 → Prop} {v : SY} {p q : Int32} (hn : cf_np p q) (h : post 0) : wpY_pair post v p q := by
  unfold wpY_pair
  by_cases h0 : p = q
  · exact br_t h0 h
  by_cases h1 : p < 0
  · exact br_f h0 (br_t h1 h)
  by_cases h2 : (5 : Int32) < p
  · exact br_f h0 (br_f h1 (br_t h2 h))
  by_cases h3 : q < 0
  · exact br_f h0 (br_f h1 (br_f h2 (br_t h3 h)))
  by_cases h4 : (5 : Int32) < q
  · exact br_f h0 (br_f h1 (br_f h2 (br_f h3 (br_t h4 h))))
  obtain ⟨a, ha, ea⟩ := cf_ge5 h1 h2
  obtain ⟨b, hb, eb⟩ := cf_ge5 h3 h4
  exact absurd (by rw [ea, eb, hn a b ha hb ea eb]) h0
end
section
/-! ===== the cost of a side: X over the pairs, Y over the cells ===== -/
def cf_xi (g : Nat → Nat) (s a : Nat) : Nat → Nat
  | 0 => 0
  | k + 1 => cf_t (cf_sp s a (5 - k)) (g (6 * a + (5 - k))) + cf_xi g s a k
def cf_xo (g : Nat → Nat) (s : Nat) : Nat → Nat
  | 0 => 0
  | k + 1 => cf_xi g s (5 - k) k + cf_xo g s k
def cf_C (g : Nat → Nat) (s : Nat) : Nat := cf_xo g s 6
theorem cf_xiL {post : Int32 → Prop} {J4 : Int32 → Int32 → Prop} {g : Nat → Nat} {s a : Nat} (hs : s < 64) (ha : a < 6) : ∀ k b acc : Nat, b + k = 6 → ∀ n, k < n → J4 (nI (acc + cf_xi g s a k)) (nI (a + 1)) → wX_costOf_15 post J4 (nI s) (nI a) (cf_A g) n (nI acc) (nI b) := by
  intro k
  induction k with
  | zero =>
    intro b acc hb n hn h
    obtain ⟨n, rfl⟩ : ∃ m, n = m + 1 := ⟨n - 1, by omega⟩
    exact br_t (nI_le (a := 6) (by omega) (by omega)) (nm_r (nI_1 a) h)
  | succ k ih =>
    intro b acc hb n hn h
    obtain ⟨n, rfl⟩ : ∃ m, n = m + 1 := ⟨n - 1, by omega⟩
    have e : cf_xi g s a (k + 1) = cf_t (cf_sp s a b) (g (6 * a + b)) + cf_xi g s a k := by
      rw [show b = 5 - k by omega]; rfl
    rw [e] at h
    refine br_f (nI_ge (b := 6) (by omega) (by decide)) (cf_splits hs ha (by omega) (fun hc => ?_) (fun hc => ?_))
    · rw [hc] at h
      refine br_f cf_10 ⟨pk_in (6 * a + b) 36 (by omega) (cf_ix a b), nm_r (e' := nI (acc + g (6 * a + b))) ?_ (nm_r (nI_1 b) (ih (b + 1) _ (by omega) n (by omega) ?_))⟩
      · rw [cf_ix, nI_clamp (by omega)]
        exact nI_add _ _
      · rw [Nat.add_assoc]; exact h
    · rw [hc] at h
      refine br_t rfl (nm_r (nI_1 b) (ih (b + 1) _ (by omega) n (by omega) ?_))
      rw [show cf_t false (g (6 * a + b)) = 0 from rfl, Nat.zero_add] at h
      exact h
theorem cf_xoL {post : Int32 → Prop} {g : Nat → Nat} {s : Nat} (hs : s < 64) : ∀ k a acc : Nat, a + k = 6 → ∀ n, k < n → post (nI (acc + cf_xo g s k)) → wX_costOf_4 post (nI s) (cf_A g) n (nI acc) (nI a) := by
  intro k
  induction k with
  | zero =>
    intro a acc ha n hn h
    obtain ⟨n, rfl⟩ : ∃ m, n = m + 1 := ⟨n - 1, by omega⟩
    exact br_t (nI_le (a := 6) (by omega) (by omega)) h
  | succ k ih =>
    intro a acc ha n hn h
    obtain ⟨n, rfl⟩ : ∃ m, n = m + 1 := ⟨n - 1, by omega⟩
    have e : cf_xo g s (k + 1) = cf_xi g s a k + cf_xo g s k := by
      rw [show a = 5 - k by omega]; rfl
    rw [e, ← Nat.add_assoc] at h
    refine br_f (nI_ge (b := 6) (by omega) (by decide)) (nm_r (nI_1 a) ⟨k + 1, cf_xiL hs (by omega) k (a + 1) acc (by omega) (k + 1) (by omega) (ih (a + 1) _ (by omega) n (by omega) h)⟩)
theorem cf_costX {post : Int32 → Prop} {g : Nat → Nat} {s : Nat} (hs : s < 64) (h : post (nI (cf_C g s))) : wpX_costOf post (cf_A g) (nI s) :=
  ⟨7, cf_xoL hs 6 0 0 rfl 7 (by decide) (by rw [Nat.zero_add]; exact h)⟩
def cf_yc (g : Nat → Nat) (s : Nat) : Nat → Nat
  | 0 => 0
  | k + 1 => cf_t (s.testBit ((35 - k) / 6) && !s.testBit ((35 - k) % 6)) (g (35 - k)) + cf_yc g s k
theorem cf_ycL {post : Int32 → Prop} {g : Nat → Nat} {s : Nat} (hs : s < 64) : ∀ k c acc : Nat, c + k = 36 → ∀ n, k < n → post (nI (acc + cf_yc g s k)) → wY_costOf_4 post (nI s) (cf_A g) n (nI acc) (nI c) := by
  intro k
  induction k with
  | zero =>
    intro c acc hc n hn h
    obtain ⟨n, rfl⟩ : ∃ m, n = m + 1 := ⟨n - 1, by omega⟩
    exact br_t (nI_le (a := 36) (by omega) (by omega)) h
  | succ k ih =>
    intro c acc hc n hn h
    obtain ⟨n, rfl⟩ : ∃ m, n = m + 1 := ⟨n - 1, by omega⟩
    have e : cf_yc g s (k + 1) = cf_t (s.testBit (c / 6) && !s.testBit (c % 6)) (g c) + cf_yc g s k := by
      rw [show c = 35 - k by omega]; rfl
    rw [e] at h
    have e2 : nI c - nI c / 6 * 6 = nI (c % 6) := pk_rem (d := 6) (by omega) (by decide) (by decide)
    have e1 : nI c / 6 = nI (c / 6) := pk_div (d := 6) (by omega) (by decide) (by decide)
    have b1 := cf_bit s hs (c / 6) (by omega)
    have b2 := cf_bit s hs (c % 6) (by omega)
    refine br_f (nI_ge (b := 36) (by omega) (by decide)) ⟨cf_60, ?_⟩
    rw [e2, e1, b1, b2]
    cases h1 : s.testBit (c / 6)
    · rw [h1, Bool.false_and, show cf_t false (g c) = 0 from rfl, Nat.zero_add] at h
      exact br_f (by decide) (br_t rfl (nm_r (nI_1 c) (ih (c + 1) acc (by omega) n (by omega) h)))
    · cases h2 : s.testBit (c % 6)
      · rw [h1, h2, show cf_t (true && !false) (g c) = g c from rfl, ← Nat.add_assoc] at h
        refine br_t rfl ⟨cf_60, br_t rfl (br_f cf_10 ⟨pk_in c 36 (by omega), nm_r (e' := nI (acc + g c)) ?_ (nm_r (nI_1 c) (ih (c + 1) _ (by omega) n (by omega) h))⟩)⟩
        rw [nI_clamp (by omega)]
        exact nI_add _ _
      · rw [h1, h2, show cf_t (true && !true) (g c) = 0 from rfl, Nat.zero_add] at h
        exact br_t rfl ⟨cf_60, br_f (by decide) (br_t rfl (nm_r (nI_1 c) (ih (c + 1) acc (by omega) n (by omega) h)))⟩
theorem cf_Cx (g : Nat → Nat) (s : Nat) : cf_C g s = ((cf_t (cf_sp s 0 1) (g 1) + (cf_t (cf_sp s 0 2) (g 2) + (cf_t (cf_sp s 0 3) (g 3) + (cf_t (cf_sp s 0 4) (g 4) + (cf_t (cf_sp s 0 5) (g 5) + 0))))) + ((cf_t (cf_sp s 1 2) (g 8) + (cf_t (cf_sp s 1 3) (g 9) + (cf_t (cf_sp s 1 4) (g 10) + (cf_t (cf_sp s 1 5) (g 11) + 0)))) + ((cf_t (cf_sp s 2 3) (g 15) + (cf_t (cf_sp s 2 4) (g 16) + (cf_t (cf_sp s 2 5) (g 17) + 0))) + ((cf_t (cf_sp s 3 4) (g 22) + (cf_t (cf_sp s 3 5) (g 23) + 0)) + ((cf_t (cf_sp s 4 5) (g 29) + 0) + (0 + 0)))))) := rfl
set_option maxRecDepth 20000 in
theorem cf_Yx (g : Nat → Nat) (s : Nat) : cf_yc g s 36 = (cf_t (s.testBit 0 && !s.testBit 0) (g 0) + (cf_t (s.testBit 0 && !s.testBit 1) (g 1) + (cf_t (s.testBit 0 && !s.testBit 2) (g 2) + (cf_t (s.testBit 0 && !s.testBit 3) (g 3) + (cf_t (s.testBit 0 && !s.testBit 4) (g 4) + (cf_t (s.testBit 0 && !s.testBit 5) (g 5) + (cf_t (s.testBit 1 && !s.testBit 0) (g 6) + (cf_t (s.testBit 1 && !s.testBit 1) (g 7) + (cf_t (s.testBit 1 && !s.testBit 2) (g 8) + (cf_t (s.testBit 1 && !s.testBit 3) (g 9) + (cf_t (s.testBit 1 && !s.testBit 4) (g 10) + (cf_t (s.testBit 1 && !s.testBit 5) (g 11) + (cf_t (s.testBit 2 && !s.testBit 0) (g 12) + (cf_t (s.testBit 2 && !s.testBit 1) (g 13) + (cf_t (s.testBit 2 && !s.testBit 2) (g 14) + (cf_t (s.testBit 2 && !s.testBit 3) (g 15) + (cf_t (s.testBit 2 && !s.testBit 4) (g 16) + (cf_t (s.testBit 2 && !s.testBit 5) (g 17) + (cf_t (s.testBit 3 && !s.testBit 0) (g 18) + (cf_t (s.testBit 3 && !s.testBit 1) (g 19) + (cf_t (s.testBit 3 && !s.testBit 2) (g 20) + (cf_t (s.testBit 3 && !s.testBit 3) (g 21) + (cf_t (s.testBit 3 && !s.testBit 4) (g 22) + (cf_t (s.testBit 3 && !s.testBit 5) (g 23) + (cf_t (s.testBit 4 && !s.testBit 0) (g 24) + (cf_t (s.testBit 4 && !s.testBit 1) (g 25) + (cf_t (s.testBit 4 && !s.testBit 2) (g 26) + (cf_t (s.testBit 4 && !s.testBit 3) (g 27) + (cf_t (s.testBit 4 && !s.testBit 4) (g 28) + (cf_t (s.testBit 4 && !s.testBit 5) (g 29) + (cf_t (s.testBit 5 && !s.testBit 0) (g 30) + (cf_t (s.testBit 5 && !s.testBit 1) (g 31) + (cf_t (s.testBit 5 && !s.testBit 2) (g 32) + (cf_t (s.testBit 5 && !s.testBit 3) (g 33) + (cf_t (s.testBit 5 && !s.testBit 4) (g 34) + (cf_t (s.testBit 5 && !s.testBit 5) (g 35) + 0)))))))))))))))))))))))))))))))))))) := rfl
theorem cf_pr {g : Nat → Nat} (hg : cf_S g) (s a b : Nat) (ha : a < 6) (hb : b < 6) : cf_t (s.testBit a && !s.testBit b) (g (6 * a + b)) + cf_t (s.testBit b && !s.testBit a) (g (6 * b + a)) = cf_t (cf_sp s a b) (g (6 * a + b)) := by
  rw [← hg a b ha hb]
  unfold cf_sp
  cases s.testBit a <;> cases s.testBit b <;> simp [cf_t]
theorem cf_dg (s a v : Nat) : cf_t (s.testBit a && !s.testBit a) v = 0 := by
  cases s.testBit a <;> rfl
theorem cf_s36 (y00 y01 y02 y03 y04 y05 y10 y11 y12 y13 y14 y15 y20 y21 y22 y23 y24 y25 y30 y31 y32 y33 y34 y35 y40 y41 y42 y43 y44 y45 y50 y51 y52 y53 y54 y55 x01 x02 x03 x04 x05 x12 x13 x14 x15 x23 x24 x25 x34 x35 x45 : Nat) (h01 : y01 + y10 = x01) (h02 : y02 + y20 = x02) (h03 : y03 + y30 = x03) (h04 : y04 + y40 = x04) (h05 : y05 + y50 = x05) (h12 : y12 + y21 = x12) (h13 : y13 + y31 = x13) (h14 : y14 + y41 = x14) (h15 : y15 + y51 = x15) (h23 : y23 + y32 = x23) (h24 : y24 + y42 = x24) (h25 : y25 + y52 = x25) (h34 : y34 + y43 = x34) (h35 : y35 + y53 = x35) (h45 : y45 + y54 = x45) (h00 : y00 = 0) (h11 : y11 = 0) (h22 : y22 = 0) (h33 : y33 = 0) (h44 : y44 = 0) (h55 : y55 = 0) : (y00 + (y01 + (y02 + (y03 + (y04 + (y05 + (y10 + (y11 + (y12 + (y13 + (y14 + (y15 + (y20 + (y21 + (y22 + (y23 + (y24 + (y25 + (y30 + (y31 + (y32 + (y33 + (y34 + (y35 + (y40 + (y41 + (y42 + (y43 + (y44 + (y45 + (y50 + (y51 + (y52 + (y53 + (y54 + (y55 + 0)))))))))))))))))))))))))))))))))))) = ((x01 + (x02 + (x03 + (x04 + (x05 + 0))))) + ((x12 + (x13 + (x14 + (x15 + 0)))) + ((x23 + (x24 + (x25 + 0))) + ((x34 + (x35 + 0)) + ((x45 + 0) + (0 + 0)))))) := by
  subst h01 h02 h03 h04 h05 h12 h13 h14 h15 h23 h24 h25 h34 h35 h45 h00 h11 h22 h33 h44 h55
  omega
theorem cf_CY {g : Nat → Nat} (hg : cf_S g) (s : Nat) : cf_yc g s 36 = cf_C g s := by
  rw [cf_Yx, cf_Cx]
  exact cf_s36 _ _ _ _ _ _ _ _ _ _ _ _ _ _ _ _ _ _ _ _ _ _ _ _ _ _ _ _ _ _ _ _ _ _ _ _ _ _ _ _ _ _ _ _ _ _ _ _ _ _ _ (cf_pr hg s 0 1 (by decide) (by decide)) (cf_pr hg s 0 2 (by decide) (by decide)) (cf_pr hg s 0 3 (by decide) (by decide)) (cf_pr hg s 0 4 (by decide) (by decide)) (cf_pr hg s 0 5 (by decide) (by decide)) (cf_pr hg s 1 2 (by decide) (by decide)) (cf_pr hg s 1 3 (by decide) (by decide)) (cf_pr hg s 1 4 (by decide) (by decide)) (cf_pr hg s 1 5 (by decide) (by decide)) (cf_pr hg s 2 3 (by decide) (by decide)) (cf_pr hg s 2 4 (by decide) (by decide)) (cf_pr hg s 2 5 (by decide) (by decide)) (cf_pr hg s 3 4 (by decide) (by decide)) (cf_pr hg s 3 5 (by decide) (by decide)) (cf_pr hg s 4 5 (by decide) (by decide)) (cf_dg s 0 _) (cf_dg s 1 _) (cf_dg s 2 _) (cf_dg s 3 _) (cf_dg s 4 _) (cf_dg s 5 _)
theorem cf_costY {post : Int32 → Prop} {g : Nat → Nat} {s : Nat} (hg : cf_S g) (hs : s < 64) (h : post (nI (cf_C g s))) : wpY_costOf post (cf_A g) (nI s) :=
  ⟨37, cf_ycL hs 36 0 0 rfl 37 (by decide) (by rw [Nat.zero_add, cf_CY hg]; exact h)⟩
/-! ===== bounds, the other side of a side, a changed pair ===== -/
theorem cf_tle {c : Bool} {v m : Nat} (h : v ≤ m) : cf_t c v ≤ m := by
  cases c
  · exact Nat.zero_le _
  · exact h
theorem cf_xib {g : Nat → Nat} (hg : ∀ j, g j ≤ 31) (s a : Nat) : ∀ k, cf_xi g s a k ≤ 31 * k := by
  intro k
  induction k with
  | zero => exact Nat.le_refl _
  | succ k ih =>
    have h1 : cf_t (cf_sp s a (5 - k)) (g (6 * a + (5 - k))) ≤ 31 := cf_tle (hg _)
    show cf_t (cf_sp s a (5 - k)) (g (6 * a + (5 - k))) + cf_xi g s a k ≤ _
    omega
theorem cf_xob {g : Nat → Nat} (hg : ∀ j, g j ≤ 31) (s : Nat) : ∀ k, k ≤ 6 → cf_xo g s k ≤ 186 * k := by
  intro k
  induction k with
  | zero => intro _; exact Nat.le_refl _
  | succ k ih =>
    intro hk
    have h1 := cf_xib hg s (5 - k) k
    have h2 := ih (by omega)
    show cf_xi g s (5 - k) k + cf_xo g s k ≤ _
    omega
theorem cf_Cb {g : Nat → Nat} (hg : ∀ j, g j ≤ 31) (s : Nat) : cf_C g s < 2 ^ 30 := by
  have h := cf_xob hg s 6 (by decide)
  show cf_xo g s 6 < _
  omega
theorem cf_xic {g : Nat → Nat} {s a : Nat} (hs : s < 64) (ha : a < 6) : ∀ k, cf_xi g (63 - s) a k = cf_xi g s a k := by
  intro k
  induction k with
  | zero => rfl
  | succ k ih =>
    show cf_t (cf_sp (63 - s) a (5 - k)) _ + cf_xi g (63 - s) a k = cf_t (cf_sp s a (5 - k)) _ + cf_xi g s a k
    rw [ih, cf_co s hs a ha (5 - k) (by omega)]
theorem cf_xoc {g : Nat → Nat} {s : Nat} (hs : s < 64) : ∀ k, cf_xo g (63 - s) k = cf_xo g s k := by
  intro k
  induction k with
  | zero => rfl
  | succ k ih =>
    show cf_xi g (63 - s) (5 - k) k + cf_xo g (63 - s) k = cf_xi g s (5 - k) k + cf_xo g s k
    rw [ih, cf_xic hs (by omega)]
theorem cf_Cc (g : Nat → Nat) {s : Nat} (hs : s < 64) : cf_C g (63 - s) = cf_C g s := cf_xoc hs 6
def cf_put (g : Nat → Nat) (a b c : Nat) : Nat → Nat := fun j => if j = 6 * b + a then c else if j = 6 * a + b then c else g j
theorem cf_putA (g : Nat → Nat) (a b c : Nat) : upd (upd (cf_A g) (6 * a + b) (nI c)) (6 * b + a) (nI c) = cf_A (cf_put g a b c) := by
  funext j
  unfold upd cf_A cf_put
  by_cases h1 : j = 6 * b + a
  · simp only [if_pos h1]
  · by_cases h2 : j = 6 * a + b
    · simp only [if_neg h1, if_pos h2]
    · simp only [if_neg h1, if_neg h2]
theorem cf_putc (g : Nat → Nat) (a b c : Nat) : cf_put g a b c = cf_put g b a c := by
  funext j
  unfold cf_put
  by_cases h1 : j = 6 * b + a
  · by_cases h2 : j = 6 * a + b
    · simp only [if_pos h1, if_pos h2]
    · simp only [if_pos h1, if_neg h2]
  · by_cases h2 : j = 6 * a + b
    · simp only [if_neg h1, if_pos h2]
    · simp only [if_neg h1, if_neg h2]
theorem cf_putb {g : Nat → Nat} {m c : Nat} (hg : ∀ j, g j ≤ m) (hc : c ≤ m) (a b : Nat) : ∀ j, cf_put g a b c j ≤ m := by
  intro j
  unfold cf_put
  by_cases h1 : j = 6 * b + a
  · rw [if_pos h1]; exact hc
  · rw [if_neg h1]
    by_cases h2 : j = 6 * a + b
    · rw [if_pos h2]; exact hc
    · rw [if_neg h2]; exact hg j
theorem cf_puts {g : Nat → Nat} (hg : cf_S g) (a b c : Nat) (ha : a < 6) (hb : b < 6) : cf_S (cf_put g a b c) := by
  intro p q hp hq
  have e := hg p q hp hq
  unfold cf_put
  by_cases h1 : p = a ∧ q = b
  · rw [if_pos (show 6 * q + p = 6 * b + a by omega)]
    by_cases h2 : 6 * p + q = 6 * b + a
    · rw [if_pos h2]
    · rw [if_neg h2, if_pos (show 6 * p + q = 6 * a + b by omega)]
  · by_cases h2 : p = b ∧ q = a
    · rw [if_pos (show 6 * p + q = 6 * b + a by omega)]
      by_cases h3 : 6 * q + p = 6 * b + a
      · rw [if_pos h3]
      · rw [if_neg h3, if_pos (show 6 * q + p = 6 * a + b by omega)]
    · rw [if_neg (show ¬ 6 * p + q = 6 * b + a by omega), if_neg (show ¬ 6 * p + q = 6 * a + b by omega), if_neg (show ¬ 6 * q + p = 6 * b + a by omega), if_neg (show ¬ 6 * q + p = 6 * a + b by omega), e]
theorem cf_back {g : Nat → Nat} (hg : cf_S g) (a b c : Nat) (ha : a < 6) (hb : b < 6) : cf_put (cf_put g a b c) a b (g (6 * a + b)) = g := by
  funext j
  have e := hg a b ha hb
  unfold cf_put
  by_cases h1 : j = 6 * b + a
  · rw [if_pos h1, e, h1]
  · rw [if_neg h1]
    by_cases h2 : j = 6 * a + b
    · rw [if_pos h2, h2]
    · rw [if_neg h2, if_neg h1, if_neg h2]
theorem cf_su01 (x01 x02 x03 x04 x05 x12 x13 x14 x15 x23 x24 x25 x34 x35 x45 r : Nat) : ((r + (x02 + (x03 + (x04 + (x05 + 0))))) + ((x12 + (x13 + (x14 + (x15 + 0)))) + ((x23 + (x24 + (x25 + 0))) + ((x34 + (x35 + 0)) + ((x45 + 0) + (0 + 0)))))) + x01 = ((x01 + (x02 + (x03 + (x04 + (x05 + 0))))) + ((x12 + (x13 + (x14 + (x15 + 0)))) + ((x23 + (x24 + (x25 + 0))) + ((x34 + (x35 + 0)) + ((x45 + 0) + (0 + 0)))))) + r := by omega
theorem cf_ch01 (g : Nat → Nat) (c s : Nat) : cf_C (cf_put g 0 1 c) s + cf_t (cf_sp s 0 1) (g 1) = cf_C g s + cf_t (cf_sp s 0 1) c := by
  have e : cf_C (cf_put g 0 1 c) s = ((cf_t (cf_sp s 0 1) c + (cf_t (cf_sp s 0 2) (g 2) + (cf_t (cf_sp s 0 3) (g 3) + (cf_t (cf_sp s 0 4) (g 4) + (cf_t (cf_sp s 0 5) (g 5) + 0))))) + ((cf_t (cf_sp s 1 2) (g 8) + (cf_t (cf_sp s 1 3) (g 9) + (cf_t (cf_sp s 1 4) (g 10) + (cf_t (cf_sp s 1 5) (g 11) + 0)))) + ((cf_t (cf_sp s 2 3) (g 15) + (cf_t (cf_sp s 2 4) (g 16) + (cf_t (cf_sp s 2 5) (g 17) + 0))) + ((cf_t (cf_sp s 3 4) (g 22) + (cf_t (cf_sp s 3 5) (g 23) + 0)) + ((cf_t (cf_sp s 4 5) (g 29) + 0) + (0 + 0)))))) := rfl
  rw [e, cf_Cx]
  exact cf_su01 _ _ _ _ _ _ _ _ _ _ _ _ _ _ _ _
theorem cf_su02 (x01 x02 x03 x04 x05 x12 x13 x14 x15 x23 x24 x25 x34 x35 x45 r : Nat) : ((x01 + (r + (x03 + (x04 + (x05 + 0))))) + ((x12 + (x13 + (x14 + (x15 + 0)))) + ((x23 + (x24 + (x25 + 0))) + ((x34 + (x35 + 0)) + ((x45 + 0) + (0 + 0)))))) + x02 = ((x01 + (x02 + (x03 + (x04 + (x05 + 0))))) + ((x12 + (x13 + (x14 + (x15 + 0)))) + ((x23 + (x24 + (x25 + 0))) + ((x34 + (x35 + 0)) + ((x45 + 0) + (0 + 0)))))) + r := by omega
theorem cf_ch02 (g : Nat → Nat) (c s : Nat) : cf_C (cf_put g 0 2 c) s + cf_t (cf_sp s 0 2) (g 2) = cf_C g s + cf_t (cf_sp s 0 2) c := by
  have e : cf_C (cf_put g 0 2 c) s = ((cf_t (cf_sp s 0 1) (g 1) + (cf_t (cf_sp s 0 2) c + (cf_t (cf_sp s 0 3) (g 3) + (cf_t (cf_sp s 0 4) (g 4) + (cf_t (cf_sp s 0 5) (g 5) + 0))))) + ((cf_t (cf_sp s 1 2) (g 8) + (cf_t (cf_sp s 1 3) (g 9) + (cf_t (cf_sp s 1 4) (g 10) + (cf_t (cf_sp s 1 5) (g 11) + 0)))) + ((cf_t (cf_sp s 2 3) (g 15) + (cf_t (cf_sp s 2 4) (g 16) + (cf_t (cf_sp s 2 5) (g 17) + 0))) + ((cf_t (cf_sp s 3 4) (g 22) + (cf_t (cf_sp s 3 5) (g 23) + 0)) + ((cf_t (cf_sp s 4 5) (g 29) + 0) + (0 + 0)))))) := rfl
  rw [e, cf_Cx]
  exact cf_su02 _ _ _ _ _ _ _ _ _ _ _ _ _ _ _ _
theorem cf_su03 (x01 x02 x03 x04 x05 x12 x13 x14 x15 x23 x24 x25 x34 x35 x45 r : Nat) : ((x01 + (x02 + (r + (x04 + (x05 + 0))))) + ((x12 + (x13 + (x14 + (x15 + 0)))) + ((x23 + (x24 + (x25 + 0))) + ((x34 + (x35 + 0)) + ((x45 + 0) + (0 + 0)))))) + x03 = ((x01 + (x02 + (x03 + (x04 + (x05 + 0))))) + ((x12 + (x13 + (x14 + (x15 + 0)))) + ((x23 + (x24 + (x25 + 0))) + ((x34 + (x35 + 0)) + ((x45 + 0) + (0 + 0)))))) + r := by omega
theorem cf_ch03 (g : Nat → Nat) (c s : Nat) : cf_C (cf_put g 0 3 c) s + cf_t (cf_sp s 0 3) (g 3) = cf_C g s + cf_t (cf_sp s 0 3) c := by
  have e : cf_C (cf_put g 0 3 c) s = ((cf_t (cf_sp s 0 1) (g 1) + (cf_t (cf_sp s 0 2) (g 2) + (cf_t (cf_sp s 0 3) c + (cf_t (cf_sp s 0 4) (g 4) + (cf_t (cf_sp s 0 5) (g 5) + 0))))) + ((cf_t (cf_sp s 1 2) (g 8) + (cf_t (cf_sp s 1 3) (g 9) + (cf_t (cf_sp s 1 4) (g 10) + (cf_t (cf_sp s 1 5) (g 11) + 0)))) + ((cf_t (cf_sp s 2 3) (g 15) + (cf_t (cf_sp s 2 4) (g 16) + (cf_t (cf_sp s 2 5) (g 17) + 0))) + ((cf_t (cf_sp s 3 4) (g 22) + (cf_t (cf_sp s 3 5) (g 23) + 0)) + ((cf_t (cf_sp s 4 5) (g 29) + 0) + (0 + 0)))))) := rfl
  rw [e, cf_Cx]
  exact cf_su03 _ _ _ _ _ _ _ _ _ _ _ _ _ _ _ _
theorem cf_su04 (x01 x02 x03 x04 x05 x12 x13 x14 x15 x23 x24 x25 x34 x35 x45 r : Nat) : ((x01 + (x02 + (x03 + (r + (x05 + 0))))) + ((x12 + (x13 + (x14 + (x15 + 0)))) + ((x23 + (x24 + (x25 + 0))) + ((x34 + (x35 + 0)) + ((x45 + 0) + (0 + 0)))))) + x04 = ((x01 + (x02 + (x03 + (x04 + (x05 + 0))))) + ((x12 + (x13 + (x14 + (x15 + 0)))) + ((x23 + (x24 + (x25 + 0))) + ((x34 + (x35 + 0)) + ((x45 + 0) + (0 + 0)))))) + r := by omega
theorem cf_ch04 (g : Nat → Nat) (c s : Nat) : cf_C (cf_put g 0 4 c) s + cf_t (cf_sp s 0 4) (g 4) = cf_C g s + cf_t (cf_sp s 0 4) c := by
  have e : cf_C (cf_put g 0 4 c) s = ((cf_t (cf_sp s 0 1) (g 1) + (cf_t (cf_sp s 0 2) (g 2) + (cf_t (cf_sp s 0 3) (g 3) + (cf_t (cf_sp s 0 4) c + (cf_t (cf_sp s 0 5) (g 5) + 0))))) + ((cf_t (cf_sp s 1 2) (g 8) + (cf_t (cf_sp s 1 3) (g 9) + (cf_t (cf_sp s 1 4) (g 10) + (cf_t (cf_sp s 1 5) (g 11) + 0)))) + ((cf_t (cf_sp s 2 3) (g 15) + (cf_t (cf_sp s 2 4) (g 16) + (cf_t (cf_sp s 2 5) (g 17) + 0))) + ((cf_t (cf_sp s 3 4) (g 22) + (cf_t (cf_sp s 3 5) (g 23) + 0)) + ((cf_t (cf_sp s 4 5) (g 29) + 0) + (0 + 0)))))) := rfl
  rw [e, cf_Cx]
  exact cf_su04 _ _ _ _ _ _ _ _ _ _ _ _ _ _ _ _
theorem cf_su05 (x01 x02 x03 x04 x05 x12 x13 x14 x15 x23 x24 x25 x34 x35 x45 r : Nat) : ((x01 + (x02 + (x03 + (x04 + (r + 0))))) + ((x12 + (x13 + (x14 + (x15 + 0)))) + ((x23 + (x24 + (x25 + 0))) + ((x34 + (x35 + 0)) + ((x45 + 0) + (0 + 0)))))) + x05 = ((x01 + (x02 + (x03 + (x04 + (x05 + 0))))) + ((x12 + (x13 + (x14 + (x15 + 0)))) + ((x23 + (x24 + (x25 + 0))) + ((x34 + (x35 + 0)) + ((x45 + 0) + (0 + 0)))))) + r := by omega
theorem cf_ch05 (g : Nat → Nat) (c s : Nat) : cf_C (cf_put g 0 5 c) s + cf_t (cf_sp s 0 5) (g 5) = cf_C g s + cf_t (cf_sp s 0 5) c := by
  have e : cf_C (cf_put g 0 5 c) s = ((cf_t (cf_sp s 0 1) (g 1) + (cf_t (cf_sp s 0 2) (g 2) + (cf_t (cf_sp s 0 3) (g 3) + (cf_t (cf_sp s 0 4) (g 4) + (cf_t (cf_sp s 0 5) c + 0))))) + ((cf_t (cf_sp s 1 2) (g 8) + (cf_t (cf_sp s 1 3) (g 9) + (cf_t (cf_sp s 1 4) (g 10) + (cf_t (cf_sp s 1 5) (g 11) + 0)))) + ((cf_t (cf_sp s 2 3) (g 15) + (cf_t (cf_sp s 2 4) (g 16) + (cf_t (cf_sp s 2 5) (g 17) + 0))) + ((cf_t (cf_sp s 3 4) (g 22) + (cf_t (cf_sp s 3 5) (g 23) + 0)) + ((cf_t (cf_sp s 4 5) (g 29) + 0) + (0 + 0)))))) := rfl
  rw [e, cf_Cx]
  exact cf_su05 _ _ _ _ _ _ _ _ _ _ _ _ _ _ _ _
theorem cf_su12 (x01 x02 x03 x04 x05 x12 x13 x14 x15 x23 x24 x25 x34 x35 x45 r : Nat) : ((x01 + (x02 + (x03 + (x04 + (x05 + 0))))) + ((r + (x13 + (x14 + (x15 + 0)))) + ((x23 + (x24 + (x25 + 0))) + ((x34 + (x35 + 0)) + ((x45 + 0) + (0 + 0)))))) + x12 = ((x01 + (x02 + (x03 + (x04 + (x05 + 0))))) + ((x12 + (x13 + (x14 + (x15 + 0)))) + ((x23 + (x24 + (x25 + 0))) + ((x34 + (x35 + 0)) + ((x45 + 0) + (0 + 0)))))) + r := by omega
theorem cf_ch12 (g : Nat → Nat) (c s : Nat) : cf_C (cf_put g 1 2 c) s + cf_t (cf_sp s 1 2) (g 8) = cf_C g s + cf_t (cf_sp s 1 2) c := by
  have e : cf_C (cf_put g 1 2 c) s = ((cf_t (cf_sp s 0 1) (g 1) + (cf_t (cf_sp s 0 2) (g 2) + (cf_t (cf_sp s 0 3) (g 3) + (cf_t (cf_sp s 0 4) (g 4) + (cf_t (cf_sp s 0 5) (g 5) + 0))))) + ((cf_t (cf_sp s 1 2) c + (cf_t (cf_sp s 1 3) (g 9) + (cf_t (cf_sp s 1 4) (g 10) + (cf_t (cf_sp s 1 5) (g 11) + 0)))) + ((cf_t (cf_sp s 2 3) (g 15) + (cf_t (cf_sp s 2 4) (g 16) + (cf_t (cf_sp s 2 5) (g 17) + 0))) + ((cf_t (cf_sp s 3 4) (g 22) + (cf_t (cf_sp s 3 5) (g 23) + 0)) + ((cf_t (cf_sp s 4 5) (g 29) + 0) + (0 + 0)))))) := rfl
  rw [e, cf_Cx]
  exact cf_su12 _ _ _ _ _ _ _ _ _ _ _ _ _ _ _ _
theorem cf_su13 (x01 x02 x03 x04 x05 x12 x13 x14 x15 x23 x24 x25 x34 x35 x45 r : Nat) : ((x01 + (x02 + (x03 + (x04 + (x05 + 0))))) + ((x12 + (r + (x14 + (x15 + 0)))) + ((x23 + (x24 + (x25 + 0))) + ((x34 + (x35 + 0)) + ((x45 + 0) + (0 + 0)))))) + x13 = ((x01 + (x02 + (x03 + (x04 + (x05 + 0))))) + ((x12 + (x13 + (x14 + (x15 + 0)))) + ((x23 + (x24 + (x25 + 0))) + ((x34 + (x35 + 0)) + ((x45 + 0) + (0 + 0)))))) + r := by omega
theorem cf_ch13 (g : Nat → Nat) (c s : Nat) : cf_C (cf_put g 1 3 c) s + cf_t (cf_sp s 1 3) (g 9) = cf_C g s + cf_t (cf_sp s 1 3) c := by
  have e : cf_C (cf_put g 1 3 c) s = ((cf_t (cf_sp s 0 1) (g 1) + (cf_t (cf_sp s 0 2) (g 2) + (cf_t (cf_sp s 0 3) (g 3) + (cf_t (cf_sp s 0 4) (g 4) + (cf_t (cf_sp s 0 5) (g 5) + 0))))) + ((cf_t (cf_sp s 1 2) (g 8) + (cf_t (cf_sp s 1 3) c + (cf_t (cf_sp s 1 4) (g 10) + (cf_t (cf_sp s 1 5) (g 11) + 0)))) + ((cf_t (cf_sp s 2 3) (g 15) + (cf_t (cf_sp s 2 4) (g 16) + (cf_t (cf_sp s 2 5) (g 17) + 0))) + ((cf_t (cf_sp s 3 4) (g 22) + (cf_t (cf_sp s 3 5) (g 23) + 0)) + ((cf_t (cf_sp s 4 5) (g 29) + 0) + (0 + 0)))))) := rfl
  rw [e, cf_Cx]
  exact cf_su13 _ _ _ _ _ _ _ _ _ _ _ _ _ _ _ _
theorem cf_su14 (x01 x02 x03 x04 x05 x12 x13 x14 x15 x23 x24 x25 x34 x35 x45 r : Nat) : ((x01 + (x02 + (x03 + (x04 + (x05 + 0))))) + ((x12 + (x13 + (r + (x15 + 0)))) + ((x23 + (x24 + (x25 + 0))) + ((x34 + (x35 + 0)) + ((x45 + 0) + (0 + 0)))))) + x14 = ((x01 + (x02 + (x03 + (x04 + (x05 + 0))))) + ((x12 + (x13 + (x14 + (x15 + 0)))) + ((x23 + (x24 + (x25 + 0))) + ((x34 + (x35 + 0)) + ((x45 + 0) + (0 + 0)))))) + r := by omega
theorem cf_ch14 (g : Nat → Nat) (c s : Nat) : cf_C (cf_put g 1 4 c) s + cf_t (cf_sp s 1 4) (g 10) = cf_C g s + cf_t (cf_sp s 1 4) c := by
  have e : cf_C (cf_put g 1 4 c) s = ((cf_t (cf_sp s 0 1) (g 1) + (cf_t (cf_sp s 0 2) (g 2) + (cf_t (cf_sp s 0 3) (g 3) + (cf_t (cf_sp s 0 4) (g 4) + (cf_t (cf_sp s 0 5) (g 5) + 0))))) + ((cf_t (cf_sp s 1 2) (g 8) + (cf_t (cf_sp s 1 3) (g 9) + (cf_t (cf_sp s 1 4) c + (cf_t (cf_sp s 1 5) (g 11) + 0)))) + ((cf_t (cf_sp s 2 3) (g 15) + (cf_t (cf_sp s 2 4) (g 16) + (cf_t (cf_sp s 2 5) (g 17) + 0))) + ((cf_t (cf_sp s 3 4) (g 22) + (cf_t (cf_sp s 3 5) (g 23) + 0)) + ((cf_t (cf_sp s 4 5) (g 29) + 0) + (0 + 0)))))) := rfl
  rw [e, cf_Cx]
  exact cf_su14 _ _ _ _ _ _ _ _ _ _ _ _ _ _ _ _
theorem cf_su15 (x01 x02 x03 x04 x05 x12 x13 x14 x15 x23 x24 x25 x34 x35 x45 r : Nat) : ((x01 + (x02 + (x03 + (x04 + (x05 + 0))))) + ((x12 + (x13 + (x14 + (r + 0)))) + ((x23 + (x24 + (x25 + 0))) + ((x34 + (x35 + 0)) + ((x45 + 0) + (0 + 0)))))) + x15 = ((x01 + (x02 + (x03 + (x04 + (x05 + 0))))) + ((x12 + (x13 + (x14 + (x15 + 0)))) + ((x23 + (x24 + (x25 + 0))) + ((x34 + (x35 + 0)) + ((x45 + 0) + (0 + 0)))))) + r := by omega
theorem cf_ch15 (g : Nat → Nat) (c s : Nat) : cf_C (cf_put g 1 5 c) s + cf_t (cf_sp s 1 5) (g 11) = cf_C g s + cf_t (cf_sp s 1 5) c := by
  have e : cf_C (cf_put g 1 5 c) s = ((cf_t (cf_sp s 0 1) (g 1) + (cf_t (cf_sp s 0 2) (g 2) + (cf_t (cf_sp s 0 3) (g 3) + (cf_t (cf_sp s 0 4) (g 4) + (cf_t (cf_sp s 0 5) (g 5) + 0))))) + ((cf_t (cf_sp s 1 2) (g 8) + (cf_t (cf_sp s 1 3) (g 9) + (cf_t (cf_sp s 1 4) (g 10) + (cf_t (cf_sp s 1 5) c + 0)))) + ((cf_t (cf_sp s 2 3) (g 15) + (cf_t (cf_sp s 2 4) (g 16) + (cf_t (cf_sp s 2 5) (g 17) + 0))) + ((cf_t (cf_sp s 3 4) (g 22) + (cf_t (cf_sp s 3 5) (g 23) + 0)) + ((cf_t (cf_sp s 4 5) (g 29) + 0) + (0 + 0)))))) := rfl
  rw [e, cf_Cx]
  exact cf_su15 _ _ _ _ _ _ _ _ _ _ _ _ _ _ _ _
theorem cf_su23 (x01 x02 x03 x04 x05 x12 x13 x14 x15 x23 x24 x25 x34 x35 x45 r : Nat) : ((x01 + (x02 + (x03 + (x04 + (x05 + 0))))) + ((x12 + (x13 + (x14 + (x15 + 0)))) + ((r + (x24 + (x25 + 0))) + ((x34 + (x35 + 0)) + ((x45 + 0) + (0 + 0)))))) + x23 = ((x01 + (x02 + (x03 + (x04 + (x05 + 0))))) + ((x12 + (x13 + (x14 + (x15 + 0)))) + ((x23 + (x24 + (x25 + 0))) + ((x34 + (x35 + 0)) + ((x45 + 0) + (0 + 0)))))) + r := by omega
theorem cf_ch23 (g : Nat → Nat) (c s : Nat) : cf_C (cf_put g 2 3 c) s + cf_t (cf_sp s 2 3) (g 15) = cf_C g s + cf_t (cf_sp s 2 3) c := by
  have e : cf_C (cf_put g 2 3 c) s = ((cf_t (cf_sp s 0 1) (g 1) + (cf_t (cf_sp s 0 2) (g 2) + (cf_t (cf_sp s 0 3) (g 3) + (cf_t (cf_sp s 0 4) (g 4) + (cf_t (cf_sp s 0 5) (g 5) + 0))))) + ((cf_t (cf_sp s 1 2) (g 8) + (cf_t (cf_sp s 1 3) (g 9) + (cf_t (cf_sp s 1 4) (g 10) + (cf_t (cf_sp s 1 5) (g 11) + 0)))) + ((cf_t (cf_sp s 2 3) c + (cf_t (cf_sp s 2 4) (g 16) + (cf_t (cf_sp s 2 5) (g 17) + 0))) + ((cf_t (cf_sp s 3 4) (g 22) + (cf_t (cf_sp s 3 5) (g 23) + 0)) + ((cf_t (cf_sp s 4 5) (g 29) + 0) + (0 + 0)))))) := rfl
  rw [e, cf_Cx]
  exact cf_su23 _ _ _ _ _ _ _ _ _ _ _ _ _ _ _ _
theorem cf_su24 (x01 x02 x03 x04 x05 x12 x13 x14 x15 x23 x24 x25 x34 x35 x45 r : Nat) : ((x01 + (x02 + (x03 + (x04 + (x05 + 0))))) + ((x12 + (x13 + (x14 + (x15 + 0)))) + ((x23 + (r + (x25 + 0))) + ((x34 + (x35 + 0)) + ((x45 + 0) + (0 + 0)))))) + x24 = ((x01 + (x02 + (x03 + (x04 + (x05 + 0))))) + ((x12 + (x13 + (x14 + (x15 + 0)))) + ((x23 + (x24 + (x25 + 0))) + ((x34 + (x35 + 0)) + ((x45 + 0) + (0 + 0)))))) + r := by omega
theorem cf_ch24 (g : Nat → Nat) (c s : Nat) : cf_C (cf_put g 2 4 c) s + cf_t (cf_sp s 2 4) (g 16) = cf_C g s + cf_t (cf_sp s 2 4) c := by
  have e : cf_C (cf_put g 2 4 c) s = ((cf_t (cf_sp s 0 1) (g 1) + (cf_t (cf_sp s 0 2) (g 2) + (cf_t (cf_sp s 0 3) (g 3) + (cf_t (cf_sp s 0 4) (g 4) + (cf_t (cf_sp s 0 5) (g 5) + 0))))) + ((cf_t (cf_sp s 1 2) (g 8) + (cf_t (cf_sp s 1 3) (g 9) + (cf_t (cf_sp s 1 4) (g 10) + (cf_t (cf_sp s 1 5) (g 11) + 0)))) + ((cf_t (cf_sp s 2 3) (g 15) + (cf_t (cf_sp s 2 4) c + (cf_t (cf_sp s 2 5) (g 17) + 0))) + ((cf_t (cf_sp s 3 4) (g 22) + (cf_t (cf_sp s 3 5) (g 23) + 0)) + ((cf_t (cf_sp s 4 5) (g 29) + 0) + (0 + 0)))))) := rfl
  rw [e, cf_Cx]
  exact cf_su24 _ _ _ _ _ _ _ _ _ _ _ _ _ _ _ _
theorem cf_su25 (x01 x02 x03 x04 x05 x12 x13 x14 x15 x23 x24 x25 x34 x35 x45 r : Nat) : ((x01 + (x02 + (x03 + (x04 + (x05 + 0))))) + ((x12 + (x13 + (x14 + (x15 + 0)))) + ((x23 + (x24 + (r + 0))) + ((x34 + (x35 + 0)) + ((x45 + 0) + (0 + 0)))))) + x25 = ((x01 + (x02 + (x03 + (x04 + (x05 + 0))))) + ((x12 + (x13 + (x14 + (x15 + 0)))) + ((x23 + (x24 + (x25 + 0))) + ((x34 + (x35 + 0)) + ((x45 + 0) + (0 + 0)))))) + r := by omega
theorem cf_ch25 (g : Nat → Nat) (c s : Nat) : cf_C (cf_put g 2 5 c) s + cf_t (cf_sp s 2 5) (g 17) = cf_C g s + cf_t (cf_sp s 2 5) c := by
  have e : cf_C (cf_put g 2 5 c) s = ((cf_t (cf_sp s 0 1) (g 1) + (cf_t (cf_sp s 0 2) (g 2) + (cf_t (cf_sp s 0 3) (g 3) + (cf_t (cf_sp s 0 4) (g 4) + (cf_t (cf_sp s 0 5) (g 5) + 0))))) + ((cf_t (cf_sp s 1 2) (g 8) + (cf_t (cf_sp s 1 3) (g 9) + (cf_t (cf_sp s 1 4) (g 10) + (cf_t (cf_sp s 1 5) (g 11) + 0)))) + ((cf_t (cf_sp s 2 3) (g 15) + (cf_t (cf_sp s 2 4) (g 16) + (cf_t (cf_sp s 2 5) c + 0))) + ((cf_t (cf_sp s 3 4) (g 22) + (cf_t (cf_sp s 3 5) (g 23) + 0)) + ((cf_t (cf_sp s 4 5) (g 29) + 0) + (0 + 0)))))) := rfl
  rw [e, cf_Cx]
  exact cf_su25 _ _ _ _ _ _ _ _ _ _ _ _ _ _ _ _
theorem cf_su34 (x01 x02 x03 x04 x05 x12 x13 x14 x15 x23 x24 x25 x34 x35 x45 r : Nat) : ((x01 + (x02 + (x03 + (x04 + (x05 + 0))))) + ((x12 + (x13 + (x14 + (x15 + 0)))) + ((x23 + (x24 + (x25 + 0))) + ((r + (x35 + 0)) + ((x45 + 0) + (0 + 0)))))) + x34 = ((x01 + (x02 + (x03 + (x04 + (x05 + 0))))) + ((x12 + (x13 + (x14 + (x15 + 0)))) + ((x23 + (x24 + (x25 + 0))) + ((x34 + (x35 + 0)) + ((x45 + 0) + (0 + 0)))))) + r := by omega
theorem cf_ch34 (g : Nat → Nat) (c s : Nat) : cf_C (cf_put g 3 4 c) s + cf_t (cf_sp s 3 4) (g 22) = cf_C g s + cf_t (cf_sp s 3 4) c := by
  have e : cf_C (cf_put g 3 4 c) s = ((cf_t (cf_sp s 0 1) (g 1) + (cf_t (cf_sp s 0 2) (g 2) + (cf_t (cf_sp s 0 3) (g 3) + (cf_t (cf_sp s 0 4) (g 4) + (cf_t (cf_sp s 0 5) (g 5) + 0))))) + ((cf_t (cf_sp s 1 2) (g 8) + (cf_t (cf_sp s 1 3) (g 9) + (cf_t (cf_sp s 1 4) (g 10) + (cf_t (cf_sp s 1 5) (g 11) + 0)))) + ((cf_t (cf_sp s 2 3) (g 15) + (cf_t (cf_sp s 2 4) (g 16) + (cf_t (cf_sp s 2 5) (g 17) + 0))) + ((cf_t (cf_sp s 3 4) c + (cf_t (cf_sp s 3 5) (g 23) + 0)) + ((cf_t (cf_sp s 4 5) (g 29) + 0) + (0 + 0)))))) := rfl
  rw [e, cf_Cx]
  exact cf_su34 _ _ _ _ _ _ _ _ _ _ _ _ _ _ _ _
theorem cf_su35 (x01 x02 x03 x04 x05 x12 x13 x14 x15 x23 x24 x25 x34 x35 x45 r : Nat) : ((x01 + (x02 + (x03 + (x04 + (x05 + 0))))) + ((x12 + (x13 + (x14 + (x15 + 0)))) + ((x23 + (x24 + (x25 + 0))) + ((x34 + (r + 0)) + ((x45 + 0) + (0 + 0)))))) + x35 = ((x01 + (x02 + (x03 + (x04 + (x05 + 0))))) + ((x12 + (x13 + (x14 + (x15 + 0)))) + ((x23 + (x24 + (x25 + 0))) + ((x34 + (x35 + 0)) + ((x45 + 0) + (0 + 0)))))) + r := by omega
theorem cf_ch35 (g : Nat → Nat) (c s : Nat) : cf_C (cf_put g 3 5 c) s + cf_t (cf_sp s 3 5) (g 23) = cf_C g s + cf_t (cf_sp s 3 5) c := by
  have e : cf_C (cf_put g 3 5 c) s = ((cf_t (cf_sp s 0 1) (g 1) + (cf_t (cf_sp s 0 2) (g 2) + (cf_t (cf_sp s 0 3) (g 3) + (cf_t (cf_sp s 0 4) (g 4) + (cf_t (cf_sp s 0 5) (g 5) + 0))))) + ((cf_t (cf_sp s 1 2) (g 8) + (cf_t (cf_sp s 1 3) (g 9) + (cf_t (cf_sp s 1 4) (g 10) + (cf_t (cf_sp s 1 5) (g 11) + 0)))) + ((cf_t (cf_sp s 2 3) (g 15) + (cf_t (cf_sp s 2 4) (g 16) + (cf_t (cf_sp s 2 5) (g 17) + 0))) + ((cf_t (cf_sp s 3 4) (g 22) + (cf_t (cf_sp s 3 5) c + 0)) + ((cf_t (cf_sp s 4 5) (g 29) + 0) + (0 + 0)))))) := rfl
  rw [e, cf_Cx]
  exact cf_su35 _ _ _ _ _ _ _ _ _ _ _ _ _ _ _ _
theorem cf_su45 (x01 x02 x03 x04 x05 x12 x13 x14 x15 x23 x24 x25 x34 x35 x45 r : Nat) : ((x01 + (x02 + (x03 + (x04 + (x05 + 0))))) + ((x12 + (x13 + (x14 + (x15 + 0)))) + ((x23 + (x24 + (x25 + 0))) + ((x34 + (x35 + 0)) + ((r + 0) + (0 + 0)))))) + x45 = ((x01 + (x02 + (x03 + (x04 + (x05 + 0))))) + ((x12 + (x13 + (x14 + (x15 + 0)))) + ((x23 + (x24 + (x25 + 0))) + ((x34 + (x35 + 0)) + ((x45 + 0) + (0 + 0)))))) + r := by omega
theorem cf_ch45 (g : Nat → Nat) (c s : Nat) : cf_C (cf_put g 4 5 c) s + cf_t (cf_sp s 4 5) (g 29) = cf_C g s + cf_t (cf_sp s 4 5) c := by
  have e : cf_C (cf_put g 4 5 c) s = ((cf_t (cf_sp s 0 1) (g 1) + (cf_t (cf_sp s 0 2) (g 2) + (cf_t (cf_sp s 0 3) (g 3) + (cf_t (cf_sp s 0 4) (g 4) + (cf_t (cf_sp s 0 5) (g 5) + 0))))) + ((cf_t (cf_sp s 1 2) (g 8) + (cf_t (cf_sp s 1 3) (g 9) + (cf_t (cf_sp s 1 4) (g 10) + (cf_t (cf_sp s 1 5) (g 11) + 0)))) + ((cf_t (cf_sp s 2 3) (g 15) + (cf_t (cf_sp s 2 4) (g 16) + (cf_t (cf_sp s 2 5) (g 17) + 0))) + ((cf_t (cf_sp s 3 4) (g 22) + (cf_t (cf_sp s 3 5) (g 23) + 0)) + ((cf_t (cf_sp s 4 5) c + 0) + (0 + 0)))))) := rfl
  rw [e, cf_Cx]
  exact cf_su45 _ _ _ _ _ _ _ _ _ _ _ _ _ _ _ _
theorem cf_chl (g : Nat → Nat) (a b c s : Nat) (h : a < b) (hb : b < 6) : cf_C (cf_put g a b c) s + cf_t (cf_sp s a b) (g (6 * a + b)) = cf_C g s + cf_t (cf_sp s a b) c := by
  obtain ⟨rfl, rfl⟩ | ⟨rfl, rfl⟩ | ⟨rfl, rfl⟩ | ⟨rfl, rfl⟩ | ⟨rfl, rfl⟩ | ⟨rfl, rfl⟩ | ⟨rfl, rfl⟩ | ⟨rfl, rfl⟩ | ⟨rfl, rfl⟩ | ⟨rfl, rfl⟩ | ⟨rfl, rfl⟩ | ⟨rfl, rfl⟩ | ⟨rfl, rfl⟩ | ⟨rfl, rfl⟩ | ⟨rfl, rfl⟩ : (a = 0 ∧ b = 1) ∨ (a = 0 ∧ b = 2) ∨ (a = 0 ∧ b = 3) ∨ (a = 0 ∧ b = 4) ∨ (a = 0 ∧ b = 5) ∨ (a = 1 ∧ b = 2) ∨ (a = 1 ∧ b = 3) ∨ (a = 1 ∧ b = 4) ∨ (a = 1 ∧ b = 5) ∨ (a = 2 ∧ b = 3) ∨ (a = 2 ∧ b = 4) ∨ (a = 2 ∧ b = 5) ∨ (a = 3 ∧ b = 4) ∨ (a = 3 ∧ b = 5) ∨ (a = 4 ∧ b = 5) := by omega
  · exact cf_ch01 g c s
  · exact cf_ch02 g c s
  · exact cf_ch03 g c s
  · exact cf_ch04 g c s
  · exact cf_ch05 g c s
  · exact cf_ch12 g c s
  · exact cf_ch13 g c s
  · exact cf_ch14 g c s
  · exact cf_ch15 g c s
  · exact cf_ch23 g c s
  · exact cf_ch24 g c s
  · exact cf_ch25 g c s
  · exact cf_ch34 g c s
  · exact cf_ch35 g c s
  · exact cf_ch45 g c s
theorem cf_ch {g : Nat → Nat} (hg : cf_S g) (a b c s : Nat) (ha : a < 6) (hb : b < 6) (hn : a ≠ b) : cf_C (cf_put g a b c) s + cf_t (cf_sp s a b) (g (6 * a + b)) = cf_C g s + cf_t (cf_sp s a b) c := by
  by_cases h : a < b
  · exact cf_chl g a b c s h hb
  · rw [cf_putc, cf_spc s a b, hg a b ha hb]
    exact cf_chl g b a c s (by omega) ha
end
section
/-! ===== the least cost over the sides that hold m and not o ===== -/
def cf_st (C : Nat → Nat) (m o s : Nat) (acc : Option Nat) : Option Nat := if cf_ft s m o = true then (match acc with | none => some (C s) | some v => if C s < v then some (C s) else some v) else acc
def cf_lo (C : Nat → Nat) (m o : Nat) : Nat → Option Nat → Option Nat
  | 0, acc => acc
  | k + 1, acc => cf_lo C m o k (cf_st C m o (62 - k) acc)
def cf_e : Option Nat → Int32
  | none => -1
  | some v => nI v
def cf_L (C : Nat → Nat) (m o : Nat) : Option Nat := cf_lo C m o 62 none
theorem cf_st0 {C : Nat → Nat} {m o s : Nat} {acc : Option Nat} (h : cf_ft s m o = false) : cf_st C m o s acc = acc := by
  unfold cf_st
  rw [if_neg (by rw [h]; decide)]
theorem cf_stn {C : Nat → Nat} {m o s : Nat} (h : cf_ft s m o = true) : cf_st C m o s none = some (C s) := by
  unfold cf_st
  rw [if_pos h]
theorem cf_stk {C : Nat → Nat} {m o s v : Nat} (h : cf_ft s m o = true) (hv : v ≤ C s) : cf_st C m o s (some v) = some v := by
  unfold cf_st
  rw [if_pos h]
  exact if_neg (by omega)
theorem cf_stl {C : Nat → Nat} {m o s v : Nat} (h : cf_ft s m o = true) (hv : C s < v) : cf_st C m o s (some v) = some (C s) := by
  unfold cf_st
  rw [if_pos h]
  exact if_pos hv
def cf_ok (acc : Option Nat) : Prop := ∀ v, acc = some v → v < 2 ^ 30
theorem cf_ok0 : cf_ok none := fun _ h => nomatch h
theorem cf_ok1 {v : Nat} (h : v < 2 ^ 30) : cf_ok (some v) := fun w e => by cases e; exact h
theorem cf_leX {post : Int32 → Prop} {g : Nat → Nat} {m o : Nat} (hg : ∀ j, g j ≤ 31) (hm : m < 64) (ho : o < 64) : ∀ k s acc, s + k = 63 → cf_ok acc → ∀ n, k < n → post (cf_e (cf_lo (cf_C g) m o k acc)) → wX_leastCost_5 post (nI m) (nI o) (cf_A g) n (cf_e acc) (nI s) := by
  intro k
  induction k with
  | zero =>
    intro s acc hs hk n hn h
    obtain ⟨n, rfl⟩ : ∃ m, n = m + 1 := ⟨n - 1, by omega⟩
    exact br_t (nI_le (a := 63) (by omega) (by omega)) h
  | succ k ih =>
    intro s acc hs hk n hn h
    obtain ⟨n, rfl⟩ : ∃ m, n = m + 1 := ⟨n - 1, by omega⟩
    have e : cf_lo (cf_C g) m o (k + 1) acc = cf_lo (cf_C g) m o k (cf_st (cf_C g) m o s acc) := by
      rw [show s = 62 - k by omega]; rfl
    rw [e] at h
    have hc := cf_Cb hg s
    refine br_f (nI_ge (b := 63) (by omega) (by decide)) (cf_fits (by omega) hm ho (fun hf => br_f cf_10 (cf_costX (by omega) ?_)) (fun hf => br_t rfl (nm_r (nI_1 s) (ih (s + 1) acc (by omega) hk n (by omega) ?_))))
    · cases acc with
      | none =>
        rw [cf_stn hf] at h
        exact br_t rfl (nm_r (nI_1 s) (ih (s + 1) (some (cf_C g s)) (by omega) (cf_ok1 hc) n (by omega) h))
      | some v =>
        have hv := hk v rfl
        refine br_f (cf_nm (by omega)) (pk_le v (cf_C g s) (fun hl => nm_r (nI_1 s) (ih (s + 1) (some v) (by omega) hk n (by omega) ?_)) (fun hl => nm_r (nI_1 s) (ih (s + 1) (some (cf_C g s)) (by omega) (cf_ok1 hc) n (by omega) ?_)))
        · rw [cf_stk hf hl] at h; exact h
        · rw [cf_stl hf hl] at h; exact h
    · rw [cf_st0 hf] at h; exact h
theorem cf_leastX {post : Int32 → Prop} {g : Nat → Nat} {m o : Nat} (hg : ∀ j, g j ≤ 31) (hm : m < 64) (ho : o < 64) (h : post (cf_e (cf_L (cf_C g) m o))) : wpX_leastCost post (cf_A g) (nI m) (nI o) :=
  ⟨63, cf_leX hg hm ho 62 1 none rfl cf_ok0 63 (by decide) h⟩
theorem cf_leY {post : Int32 → Prop} {g : Nat → Nat} {m o : Nat} (hg : ∀ j, g j ≤ 31) (hy : cf_S g) (hm : m < 64) (ho : o < 64) : ∀ k s acc, s + k = 63 → cf_ok acc → ∀ n, k < n → post (cf_e (cf_lo (cf_C g) m o k acc)) → wY_cheapest_5 post (nI m) (nI o) (cf_A g) n (cf_e acc) (nI s) := by
  intro k
  induction k with
  | zero =>
    intro s acc hs hk n hn h
    obtain ⟨n, rfl⟩ : ∃ m, n = m + 1 := ⟨n - 1, by omega⟩
    exact br_t (nI_lt (a := 62) (by omega) (by omega)) h
  | succ k ih =>
    intro s acc hs hk n hn h
    obtain ⟨n, rfl⟩ : ∃ m, n = m + 1 := ⟨n - 1, by omega⟩
    have e : cf_lo (cf_C g) m o (k + 1) acc = cf_lo (cf_C g) m o k (cf_st (cf_C g) m o s acc) := by
      rw [show s = 62 - k by omega]; rfl
    rw [e] at h
    have hc := cf_Cb hg s
    have h64 : s < 64 := by omega
    refine br_f (nI_nlt (a := 62) (by omega) (by decide)) ?_
    by_cases f1 : s &&& m = m
    · refine br_t ((cf_f3 s h64 m hm).mpr f1) ?_
      by_cases f2 : s &&& o = 0
      · have hf : cf_ft s m o = true := by simp [cf_ft, f1, f2]
        refine br_t ((cf_f4 s h64 o ho).mpr f2) (cf_costY hy h64 ?_)
        cases acc with
        | none =>
          rw [cf_stn hf] at h
          exact br_t cf_m1 (nm_r (nI_1 s) (ih (s + 1) (some (cf_C g s)) (by omega) (cf_ok1 hc) n (by omega) h))
        | some v =>
          have hv := hk v rfl
          refine br_f (nI_pos (by omega)) (pk_le v (cf_C g s) (fun hl => nm_r (nI_1 s) (ih (s + 1) (some v) (by omega) hk n (by omega) ?_)) (fun hl => nm_r (nI_1 s) (ih (s + 1) (some (cf_C g s)) (by omega) (cf_ok1 hc) n (by omega) ?_)))
          · rw [cf_stk hf hl] at h; exact h
          · rw [cf_stl hf hl] at h; exact h
      · have hf : cf_ft s m o = false := by simp [cf_ft, f2]
        rw [cf_st0 hf] at h
        exact br_f (fun z => f2 ((cf_f4 s h64 o ho).mp z)) (nm_r (nI_1 s) (ih (s + 1) acc (by omega) hk n (by omega) h))
    · have hf : cf_ft s m o = false := by simp [cf_ft, f1]
      rw [cf_st0 hf] at h
      exact br_f (fun z => f1 ((cf_f3 s h64 m hm).mp z)) (nm_r (nI_1 s) (ih (s + 1) acc (by omega) hk n (by omega) h))
theorem cf_leastY {post : Int32 → Prop} {g : Nat → Nat} {m o : Nat} (hg : ∀ j, g j ≤ 31) (hy : cf_S g) (hm : m < 64) (ho : o < 64) (h : post (cf_e (cf_L (cf_C g) m o))) : wpY_cheapest post (cf_A g) (nI m) (nI o) :=
  ⟨63, cf_leY hg hy hm ho 62 1 none rfl cf_ok0 63 (by decide) h⟩
/-! ===== what the least cost is ===== -/
theorem cf_los (C : Nat → Nat) (m o : Nat) : ∀ k acc v, k ≤ 62 → cf_lo C m o k acc = some v → (acc = some v ∨ ∃ t, 63 - k ≤ t ∧ t ≤ 62 ∧ cf_ft t m o = true ∧ C t = v) ∧ (∀ w, acc = some w → v ≤ w) ∧ (∀ t, 63 - k ≤ t → t ≤ 62 → cf_ft t m o = true → v ≤ C t) := by
  intro k
  induction k with
  | zero =>
    intro acc v _ h
    have h' : acc = some v := h
    subst h'
    exact ⟨Or.inl rfl, fun w e => by cases e; exact Nat.le_refl _, fun t h1 h2 _ => by omega⟩
  | succ k ih =>
    intro acc v hk h
    obtain ⟨i1, i2, i3⟩ := ih (cf_st C m o (62 - k) acc) v (by omega) h
    have hr : ∀ t, 63 - (k + 1) ≤ t → t = 62 - k ∨ 63 - k ≤ t := fun t ht => by omega
    have hi : ∀ t, 63 - k ≤ t → 63 - (k + 1) ≤ t := fun t ht => by omega
    have h62 : 63 - (k + 1) ≤ 62 - k := by omega
    cases hf : cf_ft (62 - k) m o with
    | false =>
      rw [cf_st0 hf] at i1 i2
      refine ⟨?_, i2, fun t h1 h2 h3 => ?_⟩
      · rcases i1 with i1 | ⟨t, a1, a2, a3, a4⟩
        · exact Or.inl i1
        · exact Or.inr ⟨t, hi t a1, a2, a3, a4⟩
      · rcases hr t h1 with z | z
        · rw [z, hf] at h3; exact nomatch h3
        · exact i3 t z h2 h3
    | true =>
      cases acc with
      | none =>
        rw [cf_stn hf] at i1 i2
        have iv := i2 _ rfl
        refine ⟨?_, (fun w e => nomatch e), fun t h1 h2 h3 => ?_⟩
        · rcases i1 with i1 | ⟨t, a1, a2, a3, a4⟩
          · exact Or.inr ⟨62 - k, h62, by omega, hf, by injection i1⟩
          · exact Or.inr ⟨t, hi t a1, a2, a3, a4⟩
        · rcases hr t h1 with z | z
          · rw [z]; exact iv
          · exact i3 t z h2 h3
      | some u =>
        by_cases hu : C (62 - k) < u
        · rw [cf_stl hf hu] at i1 i2
          have iv := i2 _ rfl
          refine ⟨?_, fun w e => ?_, fun t h1 h2 h3 => ?_⟩
          · rcases i1 with i1 | ⟨t, a1, a2, a3, a4⟩
            · exact Or.inr ⟨62 - k, h62, by omega, hf, by injection i1⟩
            · exact Or.inr ⟨t, hi t a1, a2, a3, a4⟩
          · injection e with e; omega
          · rcases hr t h1 with z | z
            · rw [z]; exact iv
            · exact i3 t z h2 h3
        · rw [cf_stk hf (by omega)] at i1 i2
          have iv := i2 _ rfl
          refine ⟨?_, i2, fun t h1 h2 h3 => ?_⟩
          · rcases i1 with i1 | ⟨t, a1, a2, a3, a4⟩
            · exact Or.inl i1
            · exact Or.inr ⟨t, hi t a1, a2, a3, a4⟩
          · rcases hr t h1 with z | z
            · rw [z]; omega
            · exact i3 t z h2 h3
theorem cf_lon (C : Nat → Nat) (m o : Nat) : ∀ k acc, k ≤ 62 → cf_lo C m o k acc = none → acc = none ∧ ∀ t, 63 - k ≤ t → t ≤ 62 → cf_ft t m o = false := by
  intro k
  induction k with
  | zero =>
    intro acc _ h
    exact ⟨h, fun t h1 h2 => by omega⟩
  | succ k ih =>
    intro acc hk h
    obtain ⟨i1, i2⟩ := ih (cf_st C m o (62 - k) acc) (by omega) h
    cases hf : cf_ft (62 - k) m o with
    | false =>
      rw [cf_st0 hf] at i1
      refine ⟨i1, fun t h1 h2 => ?_⟩
      by_cases z : t = 62 - k
      · rw [z]; exact hf
      · exact i2 t (by omega) h2
    | true =>
      cases acc with
      | none => rw [cf_stn hf] at i1; exact nomatch i1
      | some u =>
        by_cases hu : C (62 - k) < u
        · rw [cf_stl hf hu] at i1; exact nomatch i1
        · rw [cf_stk hf (by omega)] at i1; exact nomatch i1
theorem cf_Ls {C : Nat → Nat} {m o v : Nat} (h : cf_L C m o = some v) : (∃ t, 1 ≤ t ∧ t ≤ 62 ∧ cf_ft t m o = true ∧ C t = v) ∧ ∀ t, 1 ≤ t → t ≤ 62 → cf_ft t m o = true → v ≤ C t := by
  obtain ⟨h1, _, h3⟩ := cf_los C m o 62 none v (by decide) h
  refine ⟨?_, h3⟩
  rcases h1 with h1 | h1
  · exact nomatch h1
  · exact h1
theorem cf_Le (C : Nat → Nat) {m o t : Nat} (h1 : 1 ≤ t) (h2 : t ≤ 62) (hf : cf_ft t m o = true) : ∃ v, cf_L C m o = some v := by
  cases h : cf_L C m o with
  | some v => exact ⟨v, rfl⟩
  | none =>
    have := (cf_lon C m o 62 none (by decide) h).2 t h1 h2
    rw [hf] at this
    exact nomatch this
theorem cf_L0 (C : Nat → Nat) : ∃ v, cf_L C 0 0 = some v := cf_Le C (t := 1) (by decide) (by decide) (by decide)
theorem cf_f0 (t : Nat) : cf_ft t 0 0 = true := by simp [cf_ft]
theorem cf_L2 (C : Nat → Nat) {a b : Nat} (ha : a < 6) (hb : b < 6) (hn : a ≠ b) : ∃ v, cf_L C (2 ^ a) (2 ^ b) = some v := cf_Le C (t := 2 ^ a) (cf_pw a ha).2.1 (cf_pw a ha).2.2 (cf_ftx a ha b hb hn)
/-! ===== between, separatesAt ===== -/
def cf_E (g : Nat → Nat) (a b : Nat) : Int32 := cf_e (cf_L (cf_C g) (2 ^ a) (2 ^ b))
theorem cf_lcX {post : Int32 → Prop} {g : Nat → Nat} {a b : Nat} (hg : ∀ j, g j ≤ 31) (ha : a < 6) (hb : b < 6) (h : post (cf_E g a b)) : wpX_leastCost post (cf_A g) ((1 : Int32) <<< (nI a &&& 31)) ((1 : Int32) <<< (nI b &&& 31)) := by
  rw [cf_shl a ha, cf_shl b hb]
  exact cf_leastX hg (cf_pw a ha).1 (cf_pw b hb).1 h
theorem cf_btY {post : Int32 → Prop} {g : Nat → Nat} {a b : Nat} (hg : ∀ j, g j ≤ 31) (hy : cf_S g) (ha : a < 6) (hb : b < 6) (hn : a ≠ b) (h : post (cf_E g a b)) : wpY_between post (cf_A g) (nI a) (nI b) := by
  unfold wpY_between
  refine cf_pY1 ha hb hn (br_f cf_10 ?_)
  rw [cf_shl a ha, cf_shl b hb]
  exact cf_leastY hg hy (cf_pw a ha).1 (cf_pw b hb).1 h
def cf_se (g : Nat → Nat) (a b : Nat) (E : Int32) (s : Nat) : Bool := cf_ft s (2 ^ a) (2 ^ b) && decide (nI (cf_C g s) = E)
theorem cf_sepX {post : Int32 → Prop} {g : Nat → Nat} {a b s : Nat} {E : Int32} (hs : s < 64) (ha : a < 6) (hb : b < 6) (h1 : cf_se g a b E s = true → post 1) (h0 : cf_se g a b E s = false → post 0) : wpX_separatesAt post (cf_A g) (nI s) (nI a) (nI b) E := by
  unfold wpX_separatesAt
  rw [cf_shl a ha, cf_shl b hb]
  refine cf_fits hs (cf_pw a ha).1 (cf_pw b hb).1 (fun hf => br_f cf_10 (cf_costX hs ?_)) (fun hf => br_t rfl (h0 (by simp [cf_se, hf])))
  by_cases z : nI (cf_C g s) = E
  · exact br_t z (h1 (by simp [cf_se, hf, z]))
  · exact br_f z (h0 (by simp [cf_se, z]))
end
section
/-! ===== the relation; set, capacity, cost, least, between, forced ===== -/
/-- one table of naturals up to 30, the same in both orders of a pair, is what both sides hold -/
def i_Rel (_ : Nat) (u : SX) (v : SY) : Prop := ∃ g : Nat → Nat, u = cf_A g ∧ v = cf_A g ∧ (∀ j, g j ≤ 30) ∧ cf_S g
theorem i_up {k : Nat} {u : SX} {v : SY} (h : i_Rel k u v) : i_Rel (k + 5) u v := h
theorem i_vc0 : wpX_init (fun u => wpY_init (fun v => i_Rel 0 u v)) := ⟨fun _ => 0, rfl, rfl, fun _ => Nat.zero_le _, fun _ _ _ _ => rfl⟩
theorem cf_31 {g : Nat → Nat} (h : ∀ j, g j ≤ 30) : ∀ j, g j ≤ 31 := fun j => Nat.le_succ_of_le (h j)
theorem cf_rel {k : Nat} {g : Nat → Nat} (h : ∀ j, g j ≤ 30) (hs : cf_S g) : i_Rel k (cf_A g) (cf_A g) := ⟨g, rfl, rfl, h, hs⟩
theorem cf_putY {post : SY → Prop} {g : Nat → Nat} {a b c : Nat} (ha : a < 6) (hb : b < 6) (h : post (cf_A (cf_put g a b c))) : wpY_put post (cf_A g) (nI a) (nI b) (nI c) := by
  unfold wpY_put
  refine ⟨pk_in (6 * a + b) 36 (by omega) (cf_iy a b), nm_r (e' := upd (cf_A g) (6 * a + b) (nI c)) (by rw [cf_iy, nI_clamp (by omega)]) ⟨pk_in (6 * b + a) 36 (by omega) (cf_iy b a), nm_r (e' := cf_A (cf_put g a b c)) (by rw [cf_iy, nI_clamp (by omega), cf_putA]) h⟩⟩
theorem i_vc_set {k : Nat} {u : SX} {v : SY} (I : i_Rel k u v) (hk : k + 5 ≤ 2560) (v1 : Int32) (v2 : Int32) (v3 : Int32) : wpX_set (fun r u' => wpY_set (fun r' v' => r' = r ∧ i_Rel (k + 5) u' v') v v1 v2 v3) u v1 v2 v3 := by
  obtain ⟨g, rfl, rfl, hg, hs⟩ := I
  have R : i_Rel (k + 5) (cf_A g) (cf_A g) := cf_rel hg hs
  unfold wpX_set wpY_set
  rcases cf_dec v1 v2 with hn | ⟨a, b, ha, hb, hn, rfl, rfl⟩
  · exact cf_pX0 hn (br_t rfl (cf_pY0 hn (br_t rfl ⟨rfl, R⟩)))
  · by_cases h0 : v3 < 0
    · exact cf_pX1 ha hb hn (br_f cf_10 (br_t h0 (cf_pY1 ha hb hn (br_f cf_10 (br_t h0 ⟨rfl, R⟩)))))
    · by_cases h3 : v3 ≤ 30
      · obtain ⟨c, hc, rfl⟩ := nI_of2 (M := 30) (n := 30) (by decide) h0 h3
        refine cf_pX1 ha hb hn (br_f cf_10 (br_f h0 (br_t h3 ⟨pk_in (6 * a + b) 36 (by omega) (cf_ix a b), nm_r (e' := upd (cf_A g) (6 * a + b) (nI c)) (by rw [cf_ix, nI_clamp (by omega)]) ⟨pk_in (6 * b + a) 36 (by omega) (cf_ix b a), nm_r (e' := cf_A (cf_put g a b c)) (by rw [cf_ix, nI_clamp (by omega), cf_putA]) ?_⟩⟩)))
        exact cf_pY1 ha hb hn (br_f cf_10 (br_f h0 (br_t h3 (cf_putY ha hb ⟨rfl, cf_rel (cf_putb hg hc a b) (cf_puts hs a b c ha hb)⟩))))
      · exact cf_pX1 ha hb hn (br_f cf_10 (br_f h0 (br_f h3 (cf_pY1 ha hb hn (br_f cf_10 (br_f h0 (br_f h3 ⟨rfl, R⟩)))))))
theorem i_vc_capacity {k : Nat} {u : SX} {v : SY} (I : i_Rel k u v) (hk : k + 5 ≤ 2560) (v1 : Int32) (v2 : Int32) : wpX_capacity (fun r => wpY_capacity (fun r' => r' = r ∧ i_Rel (k + 5) u v) v v1 v2) u v1 v2 := by
  obtain ⟨g, rfl, rfl, hg, hs⟩ := I
  have R : i_Rel (k + 5) (cf_A g) (cf_A g) := cf_rel hg hs
  unfold wpX_capacity wpY_capacity
  rcases cf_dec v1 v2 with hn | ⟨a, b, ha, hb, hn, rfl, rfl⟩
  · exact cf_pX0 hn (br_t rfl (cf_pY0 hn (br_t rfl ⟨rfl, R⟩)))
  · refine cf_pX1 ha hb hn (br_f cf_10 ⟨pk_in (6 * a + b) 36 (by omega) (cf_ix a b), cf_pY1 ha hb hn (br_f cf_10 ⟨pk_in (6 * a + b) 36 (by omega) (cf_iy a b), ?_, R⟩)⟩)
    rw [cf_ix, cf_iy]
theorem cf_63 {p : Int32} (h : ¬ p < 0) (h5 : ¬ (63 : Int32) < p) : ∃ a : Nat, a < 64 ∧ p = nI a := by
  obtain ⟨j, hj, rfl⟩ := nI_of h
  by_cases z : j < 64
  · exact ⟨j, z, rfl⟩
  · exact absurd (nI_lt (a := 63) (b := j) (by omega) hj) h5
theorem i_vc_cost {k : Nat} {u : SX} {v : SY} (I : i_Rel k u v) (hk : k + 5 ≤ 2560) (v1 : Int32) : wpX_cost (fun r => wpY_cost (fun r' => r' = r ∧ i_Rel (k + 5) u v) v v1) u v1 := by
  obtain ⟨g, rfl, rfl, hg, hs⟩ := I
  have R : i_Rel (k + 5) (cf_A g) (cf_A g) := cf_rel hg hs
  unfold wpX_cost wpY_cost
  by_cases h1 : v1 < 1
  · exact br_t h1 (br_t h1 ⟨rfl, R⟩)
  · have h0 : ¬ v1 < 0 := by
      intro z
      rw [Int32.lt_iff_toInt_lt] at z h1
      rw [show (0 : Int32).toInt = 0 from by decide] at z
      rw [show (1 : Int32).toInt = 1 from by decide] at h1
      omega
    obtain ⟨j, hj, rfl⟩ := nI_of h0
    by_cases z : j < 63
    · exact br_f h1 (br_t (nI_lt (b := 63) z (by decide)) (cf_costX (by omega) (br_f h1 (br_f (nI_nlt (a := 62) (by omega) (by decide)) (cf_costY hs (by omega) ⟨rfl, R⟩)))))
    · exact br_f h1 (br_f (nI_nlt (b := 63) (by omega) hj) (br_f h1 (br_t (nI_lt (a := 62) (by omega) hj) ⟨rfl, R⟩)))
theorem i_vc_least {k : Nat} {u : SX} {v : SY} (I : i_Rel k u v) (hk : k + 5 ≤ 2560) : wpX_least (fun r => wpY_least (fun r' => r' = r ∧ i_Rel (k + 5) u v) v) u := by
  obtain ⟨g, rfl, rfl, hg, hs⟩ := I
  have R : i_Rel (k + 5) (cf_A g) (cf_A g) := cf_rel hg hs
  unfold wpX_least wpY_least
  refine cf_leastX (m := 0) (o := 0) (cf_31 hg) (by decide) (by decide) ?_
  exact cf_leastY (m := 0) (o := 0) (cf_31 hg) hs (by decide) (by decide) ⟨rfl, R⟩
theorem i_vc_between {k : Nat} {u : SX} {v : SY} (I : i_Rel k u v) (hk : k + 5 ≤ 2560) (v1 : Int32) (v2 : Int32) : wpX_between (fun r => wpY_between (fun r' => r' = r ∧ i_Rel (k + 5) u v) v v1 v2) u v1 v2 := by
  obtain ⟨g, rfl, rfl, hg, hs⟩ := I
  have R : i_Rel (k + 5) (cf_A g) (cf_A g) := cf_rel hg hs
  unfold wpX_between
  rcases cf_dec v1 v2 with hn | ⟨a, b, ha, hb, hn, rfl, rfl⟩
  · refine cf_pX0 hn (br_t rfl ?_)
    unfold wpY_between
    exact cf_pY0 hn (br_t rfl ⟨rfl, R⟩)
  · exact cf_pX1 ha hb hn (br_f cf_10 (cf_lcX (cf_31 hg) ha hb (cf_btY (cf_31 hg) hs ha hb hn ⟨rfl, R⟩)))
theorem cf_mk1 : ∀ j, j < 64 → (nI j &&& (-64)) = 0 := by decide +kernel
theorem cf_mk2 : ∀ i, i < 32 → 6 ≤ i → (-64 : Int32).toBitVec.getLsbD i = true := by decide +kernel
theorem cf_mk {p : Int32} (h : (p &&& (-64)) = 0) : ∃ j : Nat, j < 64 ∧ p = nI j := by
  have hb : ∀ i, 6 ≤ i → p.toBitVec.toNat.testBit i = false := by
    intro i hi
    by_cases h32 : i < 32
    · have e : (p &&& (-64)).toBitVec.getLsbD i = (0 : Int32).toBitVec.getLsbD i := by rw [h]
      rw [Int32.toBitVec_and, BitVec.getLsbD_and, cf_mk2 i h32 hi, Bool.and_true] at e
      have e0 : (0 : Int32).toBitVec.getLsbD i = false := by
        show (0#32).getLsbD i = false
        exact BitVec.getLsbD_zero
      rw [e0] at e
      exact e
    · exact Nat.testBit_lt_two_pow (Nat.lt_of_lt_of_le p.toBitVec.isLt (Nat.pow_le_pow_right (by decide) (by omega)))
  have hl : p.toBitVec.toNat < 2 ^ 6 := Nat.lt_pow_two_of_testBit _ hb
  refine ⟨p.toBitVec.toNat, by omega, ?_⟩
  apply Int32.toBitVec_inj.mp
  apply BitVec.eq_of_toNat_eq
  rw [pk_tn (by omega)]
theorem cf_mkn {p : Int32} (h : p < 0 ∨ (63 : Int32) < p) : ¬ (p &&& (-64)) = 0 := by
  intro z
  obtain ⟨j, hj, rfl⟩ := cf_mk z
  rcases h with h | h
  · exact nI_pos (by omega) h
  · exact nI_nlt (a := 63) (by omega) (by decide) h
theorem cf_le63 {p : Int32} (h : ¬ (63 : Int32) < p) : p ≤ 63 := Int32.not_lt.mp h
theorem i_vc_forced {k : Nat} {u : SX} {v : SY} (I : i_Rel k u v) (hk : k + 5 ≤ 2560) (v1 : Int32) (v2 : Int32) : wpX_forced (fun r => wpY_forced (fun r' => r' = r ∧ i_Rel (k + 5) u v) v v1 v2) u v1 v2 := by
  obtain ⟨g, rfl, rfl, hg, hs⟩ := I
  have R : i_Rel (k + 5) (cf_A g) (cf_A g) := cf_rel hg hs
  unfold wpX_forced wpY_forced
  by_cases a0 : v1 < 0
  · exact br_f (cf_mkn (Or.inl a0)) (br_t a0 ⟨rfl, R⟩)
  by_cases a1 : (63 : Int32) < v1
  · exact br_f (cf_mkn (Or.inr a1)) (br_f a0 (br_t a1 ⟨rfl, R⟩))
  obtain ⟨m, hm, rfl⟩ := cf_63 a0 a1
  refine br_t (cf_mk1 m hm) ?_
  by_cases b0 : v2 < 0
  · exact br_f (cf_mkn (Or.inl b0)) (br_f a0 (br_f a1 (br_t b0 ⟨rfl, R⟩)))
  by_cases b1 : (63 : Int32) < v2
  · exact br_f (cf_mkn (Or.inr b1)) (br_f a0 (br_f a1 (br_f b0 (br_f (fun z => absurd b1 (Int32.not_lt.mpr z)) ⟨rfl, R⟩))))
  obtain ⟨o, ho, rfl⟩ := cf_63 b0 b1
  exact br_t (cf_mk1 o ho) (cf_leastX (cf_31 hg) hm ho (br_f a0 (br_f a1 (br_f b0 (br_t (cf_le63 b1) (cf_leastY (cf_31 hg) hs hm ho ⟨rfl, R⟩))))))
end
section
/-! ===== core, reach: one fold over the sides ===== -/
def cf_fo (S : Nat → Bool) (f : Int32 → Int32 → Int32) : Nat → Int32 → Int32
  | 0, acc => acc
  | k + 1, acc => cf_fo S f k (bif S (62 - k) then f acc (nI (62 - k)) else acc)
theorem cf_coreX {post : Int32 → Prop} {g : Nat → Nat} {a b : Nat} {E : Int32} (ha : a < 6) (hb : b < 6) : ∀ k s acc, s + k = 63 → ∀ n, k < n → post (cf_fo (cf_se g a b E) (fun x y => x &&& y) k acc) → wX_core_28 post (nI a) (nI b) E (cf_A g) n acc (nI s) := by
  intro k
  induction k with
  | zero =>
    intro s acc hs n hn h
    obtain ⟨n, rfl⟩ : ∃ m, n = m + 1 := ⟨n - 1, by omega⟩
    exact br_t (nI_le (a := 63) (by omega) (by omega)) h
  | succ k ih =>
    intro s acc hs n hn h
    obtain ⟨n, rfl⟩ : ∃ m, n = m + 1 := ⟨n - 1, by omega⟩
    have e : cf_fo (cf_se g a b E) (fun x y => x &&& y) (k + 1) acc = cf_fo (cf_se g a b E) (fun x y => x &&& y) k (bif cf_se g a b E s then acc &&& nI s else acc) := by
      rw [show s = 62 - k by omega]; rfl
    rw [e] at h
    refine br_f (nI_ge (b := 63) (by omega) (by decide)) (cf_sepX (by omega) ha hb (fun hc => ?_) (fun hc => ?_))
    · rw [hc] at h
      exact br_f cf_10 (nm_e (nm_r (nI_1 s) (ih (s + 1) _ (by omega) n (by omega) h)))
    · rw [hc] at h
      exact br_t rfl (nm_r (nI_1 s) (ih (s + 1) _ (by omega) n (by omega) h))
theorem cf_reachX {post : Int32 → Prop} {g : Nat → Nat} {a b : Nat} {E : Int32} (ha : a < 6) (hb : b < 6) : ∀ k s acc, s + k = 63 → ∀ n, k < n → post (cf_fo (cf_se g a b E) (fun x y => x ||| y) k acc) → wX_reach_27 post (nI a) (nI b) E (cf_A g) n acc (nI s) := by
  intro k
  induction k with
  | zero =>
    intro s acc hs n hn h
    obtain ⟨n, rfl⟩ : ∃ m, n = m + 1 := ⟨n - 1, by omega⟩
    exact br_t (nI_le (a := 63) (by omega) (by omega)) h
  | succ k ih =>
    intro s acc hs n hn h
    obtain ⟨n, rfl⟩ : ∃ m, n = m + 1 := ⟨n - 1, by omega⟩
    have e : cf_fo (cf_se g a b E) (fun x y => x ||| y) (k + 1) acc = cf_fo (cf_se g a b E) (fun x y => x ||| y) k (bif cf_se g a b E s then acc ||| nI s else acc) := by
      rw [show s = 62 - k by omega]; rfl
    rw [e] at h
    refine br_f (nI_ge (b := 63) (by omega) (by decide)) (cf_sepX (by omega) ha hb (fun hc => ?_) (fun hc => ?_))
    · rw [hc] at h
      exact br_f cf_10 (nm_e (nm_r (nI_1 s) (ih (s + 1) _ (by omega) n (by omega) h)))
    · rw [hc] at h
      exact br_t rfl (nm_r (nI_1 s) (ih (s + 1) _ (by omega) n (by omega) h))
theorem cf_coreY {post : Int32 → Prop} {g : Nat → Nat} {a b : Nat} (hg : ∀ j, g j ≤ 31) (hy : cf_S g) (ha : a < 6) (hb : b < 6) (hn : a ≠ b) : ∀ k s acc, s + k = 63 → ∀ n, k < n → post (cf_fo (cf_se g a b (cf_E g a b)) (fun x y => x &&& y) k acc) → wY_core_19 post (nI a) (nI b) (cf_A g) n acc (nI s) := by
  intro k
  induction k with
  | zero =>
    intro s acc hs n hk h
    obtain ⟨n, rfl⟩ : ∃ m, n = m + 1 := ⟨n - 1, by omega⟩
    exact br_t (nI_lt (a := 62) (by omega) (by omega)) h
  | succ k ih =>
    intro s acc hs n hk h
    obtain ⟨n, rfl⟩ : ∃ m, n = m + 1 := ⟨n - 1, by omega⟩
    have h64 : s < 64 := by omega
    have e : cf_fo (cf_se g a b (cf_E g a b)) (fun x y => x &&& y) (k + 1) acc = cf_fo (cf_se g a b (cf_E g a b)) (fun x y => x &&& y) k (bif cf_se g a b (cf_E g a b) s then acc &&& nI s else acc) := by
      rw [show s = 62 - k by omega]; rfl
    rw [e] at h
    have hf := cf_ftb s h64 a ha b hb
    refine br_f (nI_nlt (a := 62) (by omega) (by decide)) (cf_pY1 ha hb hn (br_f cf_10 ?_))
    rw [cf_bit s h64 a ha, cf_bit s h64 b hb]
    cases h1 : s.testBit a
    · have z : cf_se g a b (cf_E g a b) s = false := by simp [cf_se, hf, h1]
      rw [z] at h
      exact br_f (by decide) (br_t rfl (nm_r (nI_1 s) (ih (s + 1) _ (by omega) n (by omega) h)))
    · cases h2 : s.testBit b
      · refine br_t rfl (br_t rfl (cf_costY hy h64 (cf_btY hg hy ha hb hn ?_)))
        by_cases hc : nI (cf_C g s) = cf_E g a b
        · have z : cf_se g a b (cf_E g a b) s = true := by simp [cf_se, hf, h1, h2, hc]
          rw [z] at h
          exact br_t hc (br_f cf_10 (nm_e (nm_r (nI_1 s) (ih (s + 1) _ (by omega) n (by omega) h))))
        · have z : cf_se g a b (cf_E g a b) s = false := by simp [cf_se, hc]
          rw [z] at h
          exact br_f hc (br_t rfl (nm_r (nI_1 s) (ih (s + 1) _ (by omega) n (by omega) h)))
      · have z : cf_se g a b (cf_E g a b) s = false := by simp [cf_se, hf, h2]
        rw [z] at h
        exact br_t rfl (br_f (by decide) (br_t rfl (nm_r (nI_1 s) (ih (s + 1) _ (by omega) n (by omega) h))))
theorem cf_reachY {post : Int32 → Prop} {g : Nat → Nat} {a b : Nat} (hg : ∀ j, g j ≤ 31) (hy : cf_S g) (ha : a < 6) (hb : b < 6) (hn : a ≠ b) : ∀ k s acc, s + k = 63 → ∀ n, k < n → post (cf_fo (cf_se g a b (cf_E g a b)) (fun x y => x ||| y) k acc) → wY_reach_5 post (nI a) (nI b) (cf_A g) n acc (nI s) := by
  intro k
  induction k with
  | zero =>
    intro s acc hs n hk h
    obtain ⟨n, rfl⟩ : ∃ m, n = m + 1 := ⟨n - 1, by omega⟩
    exact br_t (nI_lt (a := 62) (by omega) (by omega)) h
  | succ k ih =>
    intro s acc hs n hk h
    obtain ⟨n, rfl⟩ : ∃ m, n = m + 1 := ⟨n - 1, by omega⟩
    have h64 : s < 64 := by omega
    have e : cf_fo (cf_se g a b (cf_E g a b)) (fun x y => x ||| y) (k + 1) acc = cf_fo (cf_se g a b (cf_E g a b)) (fun x y => x ||| y) k (bif cf_se g a b (cf_E g a b) s then acc ||| nI s else acc) := by
      rw [show s = 62 - k by omega]; rfl
    rw [e] at h
    have hf := cf_ftb s h64 a ha b hb
    refine br_f (nI_nlt (a := 62) (by omega) (by decide)) (cf_pY1 ha hb hn (br_f cf_10 ?_))
    rw [cf_bit s h64 a ha, cf_bit s h64 b hb]
    cases h1 : s.testBit a
    · have z : cf_se g a b (cf_E g a b) s = false := by simp [cf_se, hf, h1]
      rw [z] at h
      exact br_f (by decide) (br_t rfl (nm_r (nI_1 s) (ih (s + 1) _ (by omega) n (by omega) h)))
    · cases h2 : s.testBit b
      · refine br_t rfl (br_t rfl (cf_costY hy h64 (cf_btY hg hy ha hb hn ?_)))
        by_cases hc : nI (cf_C g s) = cf_E g a b
        · have z : cf_se g a b (cf_E g a b) s = true := by simp [cf_se, hf, h1, h2, hc]
          rw [z] at h
          exact br_t hc (br_f cf_10 (nm_e (nm_r (nI_1 s) (ih (s + 1) _ (by omega) n (by omega) h))))
        · have z : cf_se g a b (cf_E g a b) s = false := by simp [cf_se, hc]
          rw [z] at h
          exact br_f hc (br_t rfl (nm_r (nI_1 s) (ih (s + 1) _ (by omega) n (by omega) h)))
      · have z : cf_se g a b (cf_E g a b) s = false := by simp [cf_se, hf, h2]
        rw [z] at h
        exact br_t rfl (br_f (by decide) (br_t rfl (nm_r (nI_1 s) (ih (s + 1) _ (by omega) n (by omega) h))))
theorem cf_coreY0 {post : Int32 → Prop} {v : SY} {p q : Int32} (hn : cf_np p q) (h : post 0) : wY_core_19 post p q v 1 0 1 := br_f (by decide) (cf_pY0 hn (br_t rfl h))
theorem cf_reachY0 {post : Int32 → Prop} {v : SY} {p q : Int32} (hn : cf_np p q) (h : post 0) : wY_reach_5 post p q v 1 0 1 := br_f (by decide) (cf_pY0 hn (br_t rfl h))
theorem i_vc_core {k : Nat} {u : SX} {v : SY} (I : i_Rel k u v) (hk : k + 5 ≤ 2560) (v1 : Int32) (v2 : Int32) : wpX_core (fun r => wpY_core (fun r' => r' = r ∧ i_Rel (k + 5) u v) v v1 v2) u v1 v2 := by
  obtain ⟨g, rfl, rfl, hg, hs⟩ := I
  have R : i_Rel (k + 5) (cf_A g) (cf_A g) := cf_rel hg hs
  unfold wpX_core wpY_core
  rcases cf_dec v1 v2 with hn | ⟨a, b, ha, hb, hn, rfl, rfl⟩
  · exact cf_pX0 hn (br_t rfl (cf_pY0 hn (br_t rfl ⟨1, cf_coreY0 hn ⟨rfl, R⟩⟩)))
  · refine cf_pX1 ha hb hn (br_f cf_10 (cf_lcX (cf_31 hg) ha hb ⟨63, cf_coreX ha hb 62 1 63 rfl 63 (by decide) ?_⟩))
    exact cf_pY1 ha hb hn (br_f cf_10 ⟨63, cf_coreY (cf_31 hg) hs ha hb hn 62 1 63 rfl 63 (by decide) ⟨rfl, R⟩⟩)
theorem i_vc_reach {k : Nat} {u : SX} {v : SY} (I : i_Rel k u v) (hk : k + 5 ≤ 2560) (v1 : Int32) (v2 : Int32) : wpX_reach (fun r => wpY_reach (fun r' => r' = r ∧ i_Rel (k + 5) u v) v v1 v2) u v1 v2 := by
  obtain ⟨g, rfl, rfl, hg, hs⟩ := I
  have R : i_Rel (k + 5) (cf_A g) (cf_A g) := cf_rel hg hs
  unfold wpX_reach wpY_reach
  rcases cf_dec v1 v2 with hn | ⟨a, b, ha, hb, hn, rfl, rfl⟩
  · exact cf_pX0 hn (br_t rfl ⟨1, cf_reachY0 hn ⟨rfl, R⟩⟩)
  · refine cf_pX1 ha hb hn (br_f cf_10 (cf_lcX (cf_31 hg) ha hb ⟨63, cf_reachX ha hb 62 1 0 rfl 63 (by decide) ?_⟩))
    exact ⟨63, cf_reachY (cf_31 hg) hs ha hb hn 62 1 0 rfl 63 (by decide) ⟨rfl, R⟩⟩
/-! ===== pairsAtLeast: the same fifteen steps in the same order ===== -/
def cf_pT (g : Nat → Nat) (c : Int32) (a b : Nat) (acc : Int32) : Int32 := if cf_E g a b < c then acc else acc + 1
def cf_pi (T : Nat → Nat → Int32 → Int32) (a : Nat) : Nat → Int32 → Int32
  | 0, acc => acc
  | k + 1, acc => cf_pi T a k (T a (5 - k) acc)
def cf_po (T : Nat → Nat → Int32 → Int32) : Nat → Int32 → Int32
  | 0, acc => acc
  | k + 1, acc => cf_po T k (cf_pi T (5 - k) k acc)
def cf_py (T : Nat → Nat → Int32 → Int32) : Nat → Int32 → Int32
  | 0, acc => acc
  | k + 1, acc => cf_py T k (if (35 - k) % 6 ≤ (35 - k) / 6 then acc else T ((35 - k) / 6) ((35 - k) % 6) acc)
theorem cf_pe (T : Nat → Nat → Int32 → Int32) (acc : Int32) : cf_py T 36 acc = cf_po T 6 acc := rfl
theorem cf_piL {post : Int32 → Prop} {J4 : Int32 → Int32 → Prop} {g : Nat → Nat} {c : Int32} {a : Nat} (hg : ∀ j, g j ≤ 31) (ha : a < 6) : ∀ (k b : Nat) (acc : Int32), b + k = 6 → ∀ n, k < n → J4 (cf_pi (cf_pT g c) a k acc) (nI (a + 1)) → wX_pairsAtLeast_15 post J4 c (nI a) (cf_A g) n acc (nI b) := by
  intro k
  induction k with
  | zero =>
    intro b acc hb n hn h
    obtain ⟨n, rfl⟩ : ∃ m, n = m + 1 := ⟨n - 1, by omega⟩
    exact br_t (nI_le (a := 6) (by omega) (by omega)) (nm_r (nI_1 a) h)
  | succ k ih =>
    intro b acc hb n hn h
    obtain ⟨n, rfl⟩ : ∃ m, n = m + 1 := ⟨n - 1, by omega⟩
    have e : cf_pi (cf_pT g c) a (k + 1) acc = cf_pi (cf_pT g c) a k (cf_pT g c a b acc) := by
      rw [show b = 5 - k by omega]; rfl
    rw [e] at h
    unfold cf_pT at h
    refine br_f (nI_ge (b := 6) (by omega) (by decide)) (cf_lcX hg ha (by omega) ?_)
    by_cases hc : cf_E g a b < c
    · rw [if_pos hc] at h
      exact br_t hc (nm_r (nI_1 b) (ih (b + 1) _ (by omega) n (by omega) h))
    · rw [if_neg hc] at h
      exact br_f hc (nm_e (nm_r (nI_1 b) (ih (b + 1) _ (by omega) n (by omega) h)))
theorem cf_poL {post : Int32 → Prop} {g : Nat → Nat} {c : Int32} (hg : ∀ j, g j ≤ 31) : ∀ (k a : Nat) (acc : Int32), a + k = 6 → ∀ n, k < n → post (cf_po (cf_pT g c) k acc) → wX_pairsAtLeast_4 post c (cf_A g) n acc (nI a) := by
  intro k
  induction k with
  | zero =>
    intro a acc ha n hn h
    obtain ⟨n, rfl⟩ : ∃ m, n = m + 1 := ⟨n - 1, by omega⟩
    exact br_t (nI_le (a := 6) (by omega) (by omega)) h
  | succ k ih =>
    intro a acc ha n hn h
    obtain ⟨n, rfl⟩ : ∃ m, n = m + 1 := ⟨n - 1, by omega⟩
    have e : cf_po (cf_pT g c) (k + 1) acc = cf_po (cf_pT g c) k (cf_pi (cf_pT g c) a k acc) := by
      rw [show a = 5 - k by omega]; rfl
    rw [e] at h
    exact br_f (nI_ge (b := 6) (by omega) (by decide)) (nm_r (nI_1 a) ⟨k + 1, cf_piL hg (by omega) k (a + 1) acc (by omega) (k + 1) (by omega) (ih (a + 1) _ (by omega) n (by omega) h)⟩)
theorem cf_pyL {post : Int32 → Prop} {g : Nat → Nat} {c : Int32} (hg : ∀ j, g j ≤ 31) (hy : cf_S g) : ∀ (k p : Nat) (acc : Int32), p + k = 36 → ∀ n, k < n → post (cf_py (cf_pT g c) k acc) → wY_pairsAtLeast_4 post c (cf_A g) n acc (nI p) := by
  intro k
  induction k with
  | zero =>
    intro p acc hp n hn h
    obtain ⟨n, rfl⟩ : ∃ m, n = m + 1 := ⟨n - 1, by omega⟩
    exact br_t (nI_le (a := 36) (by omega) (by omega)) h
  | succ k ih =>
    intro p acc hp n hn h
    obtain ⟨n, rfl⟩ : ∃ m, n = m + 1 := ⟨n - 1, by omega⟩
    have e : cf_py (cf_pT g c) (k + 1) acc = cf_py (cf_pT g c) k (if p % 6 ≤ p / 6 then acc else cf_pT g c (p / 6) (p % 6) acc) := by
      rw [show p = 35 - k by omega]; rfl
    rw [e] at h
    have e2 : nI p - nI p / 6 * 6 = nI (p % 6) := pk_rem (d := 6) (by omega) (by decide) (by decide)
    have e1 : nI p / 6 = nI (p / 6) := pk_div (d := 6) (by omega) (by decide) (by decide)
    refine br_f (nI_ge (b := 36) (by omega) (by decide)) ⟨cf_60, cf_60, ?_⟩
    rw [e2, e1]
    refine pk_le (p % 6) (p / 6) (fun hl => ?_) (fun hl => ⟨cf_60, cf_60, cf_btY hg hy (by omega) (by omega) (by omega) ?_⟩)
    · rw [if_pos hl] at h
      exact nm_r (nI_1 p) (ih (p + 1) _ (by omega) n (by omega) h)
    · rw [if_neg (by omega)] at h
      unfold cf_pT at h
      by_cases hc : cf_E g (p / 6) (p % 6) < c
      · rw [if_pos hc] at h
        exact br_t hc (nm_r (nI_1 p) (ih (p + 1) _ (by omega) n (by omega) h))
      · rw [if_neg hc] at h
        exact br_f hc (nm_e (nm_r (nI_1 p) (ih (p + 1) _ (by omega) n (by omega) h)))
theorem i_vc_pairsAtLeast {k : Nat} {u : SX} {v : SY} (I : i_Rel k u v) (hk : k + 5 ≤ 2560) (v1 : Int32) : wpX_pairsAtLeast (fun r => wpY_pairsAtLeast (fun r' => r' = r ∧ i_Rel (k + 5) u v) v v1) u v1 := by
  obtain ⟨g, rfl, rfl, hg, hs⟩ := I
  have R : i_Rel (k + 5) (cf_A g) (cf_A g) := cf_rel hg hs
  refine ⟨7, cf_poL (cf_31 hg) 6 0 0 rfl 7 (by decide) ?_⟩
  exact ⟨37, cf_pyL (cf_31 hg) hs 36 0 0 rfl 37 (by decide) ⟨cf_pe _ _, R⟩⟩
/-! ===== group ===== -/
def cf_gT (g : Nat → Nat) (c : Int32) (a b : Nat) (acc : Int32) : Int32 := if b = a then acc else if cf_E g a b < c then acc else acc ||| nI (2 ^ b)
def cf_go (T : Nat → Int32 → Int32) : Nat → Int32 → Int32
  | 0, acc => acc
  | k + 1, acc => cf_go T k (T (5 - k) acc)
theorem cf_goX {post : Int32 → Prop} {g : Nat → Nat} {c : Int32} {a : Nat} (hg : ∀ j, g j ≤ 31) (ha : a < 6) : ∀ (k b : Nat) (acc : Int32), b + k = 6 → ∀ n, k < n → post (cf_go (cf_gT g c a) k acc) → wX_group_16 post (nI a) c (cf_A g) n acc (nI b) := by
  intro k
  induction k with
  | zero =>
    intro b acc hb n hn h
    obtain ⟨n, rfl⟩ : ∃ m, n = m + 1 := ⟨n - 1, by omega⟩
    exact br_t (nI_le (a := 6) (by omega) (by omega)) h
  | succ k ih =>
    intro b acc hb n hn h
    obtain ⟨n, rfl⟩ : ∃ m, n = m + 1 := ⟨n - 1, by omega⟩
    have e : cf_go (cf_gT g c a) (k + 1) acc = cf_go (cf_gT g c a) k (cf_gT g c a b acc) := by
      rw [show b = 5 - k by omega]; rfl
    rw [e] at h
    unfold cf_gT at h
    have hb6 : b < 6 := by omega
    refine br_f (nI_ge (b := 6) (by omega) (by decide)) (pk_eq b a (fun hl => ?_) (fun hl => cf_lcX hg ha hb6 ?_))
    · rw [if_pos hl] at h
      exact nm_r (nI_1 b) (ih (b + 1) _ (by omega) n (by omega) h)
    · rw [if_neg hl] at h
      by_cases hc : cf_E g a b < c
      · rw [if_pos hc] at h
        exact br_t hc (nm_r (nI_1 b) (ih (b + 1) _ (by omega) n (by omega) h))
      · rw [if_neg hc] at h
        exact br_f hc (nm_r (e' := acc ||| nI (2 ^ b)) (by rw [cf_shl b hb6]) (nm_r (nI_1 b) (ih (b + 1) _ (by omega) n (by omega) h)))
theorem cf_goY {post : Int32 → Prop} {g : Nat → Nat} {c : Int32} {a : Nat} (hg : ∀ j, g j ≤ 31) (hy : cf_S g) (ha : a < 6) : ∀ (k b : Nat) (acc : Int32), b + k = 6 → ∀ n, k < n → post (cf_go (cf_gT g c a) k acc) → wY_group_20 post (nI a) c (cf_A g) n acc (nI b) := by
  intro k
  induction k with
  | zero =>
    intro b acc hb n hn h
    obtain ⟨n, rfl⟩ : ∃ m, n = m + 1 := ⟨n - 1, by omega⟩
    exact br_t (nI_le (a := 6) (by omega) (by omega)) h
  | succ k ih =>
    intro b acc hb n hn h
    obtain ⟨n, rfl⟩ : ∃ m, n = m + 1 := ⟨n - 1, by omega⟩
    have e : cf_go (cf_gT g c a) (k + 1) acc = cf_go (cf_gT g c a) k (cf_gT g c a b acc) := by
      rw [show b = 5 - k by omega]; rfl
    rw [e] at h
    unfold cf_gT at h
    have hb6 : b < 6 := by omega
    refine br_f (nI_ge (b := 6) (by omega) (by decide)) ?_
    by_cases hl : b = a
    · rw [if_pos hl] at h
      refine cf_pY0 ?_ (br_t rfl (nm_r (nI_1 b) (ih (b + 1) _ (by omega) n (by omega) h)))
      intro p q hp hq e1 e2
      rw [nI_eq (by omega) (by omega)] at e1 e2
      omega
    · rw [if_neg hl] at h
      refine cf_pY1 ha hb6 (fun z => hl z.symm) (br_f cf_10 (cf_btY hg hy ha hb6 (fun z => hl z.symm) ?_))
      by_cases hc : cf_E g a b < c
      · rw [if_pos hc] at h
        exact br_t hc (nm_r (nI_1 b) (ih (b + 1) _ (by omega) n (by omega) h))
      · rw [if_neg hc] at h
        exact br_f hc (nm_r (e' := acc ||| nI (2 ^ b)) (by rw [cf_shl b hb6]) (nm_r (nI_1 b) (ih (b + 1) _ (by omega) n (by omega) h)))
theorem cf_goY0 {post : Int32 → Prop} {v : SY} {p c : Int32} (hp : ∀ a : Nat, a < 6 → ¬ p = nI a) (h : post 0) : ∀ (k b : Nat), b + k = 6 → ∀ n, k < n → wY_group_20 post p c v n 0 (nI b) := by
  intro k
  induction k with
  | zero =>
    intro b hb n hn
    obtain ⟨n, rfl⟩ : ∃ m, n = m + 1 := ⟨n - 1, by omega⟩
    exact br_t (nI_le (a := 6) (by omega) (by omega)) h
  | succ k ih =>
    intro b hb n hn
    obtain ⟨n, rfl⟩ : ∃ m, n = m + 1 := ⟨n - 1, by omega⟩
    exact br_f (nI_ge (b := 6) (by omega) (by decide)) (cf_pY0 (fun a _ ha _ e _ => absurd e (hp a ha)) (br_t rfl (nm_r (nI_1 b) (ih (b + 1) (by omega) n (by omega)))))
theorem i_vc_group {k : Nat} {u : SX} {v : SY} (I : i_Rel k u v) (hk : k + 5 ≤ 2560) (v1 : Int32) (v2 : Int32) : wpX_group (fun r => wpY_group (fun r' => r' = r ∧ i_Rel (k + 5) u v) v v1 v2) u v1 v2 := by
  obtain ⟨g, rfl, rfl, hg, hs⟩ := I
  have R : i_Rel (k + 5) (cf_A g) (cf_A g) := cf_rel hg hs
  unfold wpX_group wpY_group
  by_cases h0 : v1 < 0
  · have hp : ∀ a : Nat, a < 6 → ¬ v1 = nI a := fun a ha e => nI_pos (n := a) (by omega) (by rw [← e]; exact h0)
    exact br_t h0 (br_t rfl (br_t h0 ⟨7, cf_goY0 hp ⟨rfl, R⟩ 6 0 rfl 7 (by decide)⟩))
  · by_cases h5 : (5 : Int32) < v1
    · have hp : ∀ a : Nat, a < 6 → ¬ v1 = nI a := fun a ha e => nI_nlt (a := 5) (b := a) (by omega) (by decide) (by rw [← e]; exact h5)
      have h6 : (6 : Int32) ≤ v1 := by
        by_cases z : (6 : Int32) ≤ v1
        · exact z
        · obtain ⟨a, ha, e⟩ := cf_ge h0 z
          exact absurd e (hp a ha)
      exact br_f h0 (br_t h6 (br_t rfl (br_f h0 (br_t h5 ⟨7, cf_goY0 hp ⟨rfl, R⟩ 6 0 rfl 7 (by decide)⟩))))
    · obtain ⟨a, ha, rfl⟩ := cf_ge5 h0 h5
      refine cf_plX ha (br_f cf_10 (nm_r (cf_shl a ha) ⟨7, cf_goX (cf_31 hg) ha 6 0 _ rfl 7 (by decide) ?_⟩))
      exact br_f h0 (br_f h5 (nm_r (cf_shl a ha) ⟨7, cf_goY (cf_31 hg) hs ha 6 0 _ rfl 7 (by decide) ⟨rfl, R⟩⟩))
end
section
/-! ===== leastSide: the first of the cheapest odd sides ===== -/
def cf_first (C : Nat → Nat) (r : Nat) : Prop := r % 2 = 1 ∧ r ≤ 62 ∧ (∀ q, q % 2 = 1 → q ≤ 62 → C r ≤ C q) ∧ (∀ q, q % 2 = 1 → q < r → C r < C q)
theorem cf_lsX {post : Int32 → Prop} {g : Nat → Nat} (hg : ∀ j, g j ≤ 31) (h : ∀ r, cf_first (cf_C g) r → post (nI r)) : ∀ k t r, t + 2 * k = 63 → r % 2 = 1 → r < t → (∀ q, q % 2 = 1 → q < t → cf_C g r ≤ cf_C g q) → (∀ q, q % 2 = 1 → q < r → cf_C g r < cf_C g q) → ∀ n, k < n → wX_leastSide_10 post (cf_A g) n (nI r) (nI (cf_C g r)) (nI t) := by
  intro k
  induction k with
  | zero =>
    intro t r ht hr hl h1 h2 n hn
    obtain ⟨n, rfl⟩ : ∃ m, n = m + 1 := ⟨n - 1, by omega⟩
    exact br_t (nI_le (a := 63) (by omega) (by omega)) (h r ⟨hr, by omega, fun q hq hm => h1 q hq (by omega), h2⟩)
  | succ k ih =>
    intro t r ht hr hl h1 h2 n hn
    obtain ⟨n, rfl⟩ : ∃ m, n = m + 1 := ⟨n - 1, by omega⟩
    have hc := cf_Cb hg t
    have hd := cf_Cb hg r
    have e : nI t + 2 = nI (t + 2) := nI_add t 2
    refine br_f (nI_ge (b := 63) (by omega) (by decide)) (cf_costX (by omega) (pk_le (cf_C g r) (cf_C g t) (fun hl2 => nm_r e (ih (t + 2) r (by omega) hr (by omega) (fun q hq hm => ?_) h2 n (by omega))) (fun hl2 => nm_r e (ih (t + 2) t (by omega) (by omega) (by omega) (fun q hq hm => ?_) (fun q hq hm => ?_) n (by omega)))))
    · by_cases z : q = t
      · rw [z]; exact hl2
      · exact h1 q hq (by omega)
    · by_cases z : q = t
      · rw [z]; exact Nat.le_refl _
      · have := h1 q hq (by omega); omega
    · have := h1 q hq hm; omega
theorem cf_lsY {post : Int32 → Prop} {g : Nat → Nat} {v r : Nat} (hg : ∀ j, g j ≤ 31) (hy : cf_S g) (hr : r % 2 = 1) (hr2 : r ≤ 62) (hv : cf_C g r = v) (hq : ∀ q, q % 2 = 1 → q < r → cf_C g r < cf_C g q) (h : post (nI r)) : ∀ k s, s + k = r → ∀ n, k < n → wY_leastSide_9 post (nI v) (cf_A g) n (nI s) := by
  intro k
  induction k with
  | zero =>
    intro s hs n hn
    obtain ⟨n, rfl⟩ : ∃ m, n = m + 1 := ⟨n - 1, by omega⟩
    have e : s = r := hs
    subst e
    exact br_f (nI_nlt (a := 62) (by omega) (by decide)) (br_t ((cf_odd s (by omega)).mpr hr) (cf_costY hy (by omega) (br_t (by rw [hv]) h)))
  | succ k ih =>
    intro s hs n hn
    obtain ⟨n, rfl⟩ : ∃ m, n = m + 1 := ⟨n - 1, by omega⟩
    refine br_f (nI_nlt (a := 62) (by omega) (by decide)) ?_
    by_cases ho : s % 2 = 1
    · have hc := cf_Cb hg s
      have hd := cf_Cb hg r
      have hl := hq s ho (by omega)
      refine br_t ((cf_odd s (by omega)).mpr ho) (cf_costY hy (by omega) (br_f (fun z => ?_) (nm_r (nI_1 s) (ih (s + 1) (by omega) n (by omega)))))
      rw [nI_eq (by omega) (by omega)] at z
      omega
    · exact br_f (fun z => ho ((cf_odd s (by omega)).mp z)) (nm_r (nI_1 s) (ih (s + 1) (by omega) n (by omega)))
theorem cf_fv {g : Nat → Nat} {r v : Nat} (h : cf_first (cf_C g) r) (hv : cf_L (cf_C g) 0 0 = some v) : cf_C g r = v := by
  obtain ⟨h1, h2, h3, h4⟩ := h
  obtain ⟨⟨t, t1, t2, _, t4⟩, m⟩ := cf_Ls hv
  have a := m r (by omega) h2 (cf_f0 r)
  by_cases z : t % 2 = 1
  · have := h3 t z t2; omega
  · have := h3 (63 - t) (by omega) (by omega)
    rw [cf_Cc g (by omega)] at this
    omega
theorem i_vc_leastSide {k : Nat} {u : SX} {v : SY} (I : i_Rel k u v) (hk : k + 5 ≤ 2560) : wpX_leastSide (fun r => wpY_leastSide (fun r' => r' = r ∧ i_Rel (k + 5) u v) v) u := by
  obtain ⟨g, rfl, rfl, hg, hs⟩ := I
  have R : i_Rel (k + 5) (cf_A g) (cf_A g) := cf_rel hg hs
  unfold wpX_leastSide wpY_leastSide
  refine cf_costX (s := 1) (by decide) ⟨31, cf_lsX (cf_31 hg) (fun r hr => ?_) 30 3 1 rfl rfl (by decide) (fun q hq hm => ?_) (fun q hq hm => by omega) 31 (by decide)⟩
  · obtain ⟨w, hw⟩ := cf_L0 (cf_C g)
    refine cf_leastY (m := 0) (o := 0) (cf_31 hg) hs (by decide) (by decide) ?_
    rw [hw]
    have hv := cf_fv hr hw
    obtain ⟨r1, r2, _, r4⟩ := hr
    exact ⟨r, cf_lsY (cf_31 hg) hs r1 r2 hv r4 ⟨rfl, R⟩ (r - 1) 1 (by omega) r (by omega)⟩
  · have e : q = 1 := by omega
    rw [e]; exact Nat.le_refl _
/-! ===== loss ===== -/
theorem cf_loX {post : Int32 → Prop} {g D : Nat → Nat} {a b d v : Nat} (hg : ∀ j, g j ≤ 31) (ha : a < 6) (hb : b < 6) (hD : ∀ s, D s + cf_t (cf_sp s a b) d = cf_C g s) (hv : v < 2 ^ 30) (h : ∀ w, w ≤ v → (∀ t, 1 ≤ t → t ≤ 62 → w ≤ D t) → (w = v ∨ ∃ t, 1 ≤ t ∧ t ≤ 62 ∧ w = D t) → post (nI v - nI w)) : ∀ k s w, s + k = 63 → 1 ≤ s → w ≤ v → (∀ t, 1 ≤ t → t < s → w ≤ D t) → (w = v ∨ ∃ t, 1 ≤ t ∧ t ≤ 62 ∧ w = D t) → ∀ n, k < n → wX_loss_36 post (nI a) (nI b) (nI v) (nI d) (cf_A g) n (nI w) (nI s) := by
  intro k
  induction k with
  | zero =>
    intro s w hs h1 h2 h3 h4 n hn
    obtain ⟨n, rfl⟩ : ∃ m, n = m + 1 := ⟨n - 1, by omega⟩
    exact br_t (nI_le (a := 63) (by omega) (by omega)) (h w h2 (fun t t1 t2 => h3 t t1 (by omega)) h4)
  | succ k ih =>
    intro s w hs h1 h2 h3 h4 n hn
    obtain ⟨n, rfl⟩ : ∃ m, n = m + 1 := ⟨n - 1, by omega⟩
    have hc := cf_Cb hg s
    have hd := hD s
    have hD30 : D s < 2 ^ 30 := by omega
    have G : wX_loss_68 post (wX_loss_36 post (nI a) (nI b) (nI v) (nI d) (cf_A g) n) (nI a) (nI b) (nI v) (nI d) (nI w) (nI s) (nI (D s)) (cf_A g) := by
      unfold wX_loss_68
      refine pk_le w (D s) (fun hl => nm_r (nI_1 s) (ih (s + 1) w (by omega) (by omega) h2 (fun t t1 t2 => ?_) h4 n (by omega))) (fun hl => nm_r (nI_1 s) (ih (s + 1) (D s) (by omega) (by omega) (by omega) (fun t t1 t2 => ?_) (Or.inr ⟨s, h1, by omega, rfl⟩) n (by omega)))
      · by_cases z : t = s
        · rw [z]; exact hl
        · exact h3 t t1 (by omega)
      · by_cases z : t = s
        · rw [z]; exact Nat.le_refl _
        · have := h3 t t1 (by omega); omega
    refine br_f (nI_ge (b := 63) (by omega) (by decide)) (cf_costX (by omega) (cf_splits (by omega) ha hb (fun hf => ?_) (fun hf => ?_)))
    · rw [hf] at hd
      have hd' : D s + d = cf_C g s := hd
      refine br_f cf_10 (nm_r (e' := nI (D s)) ?_ G)
      rw [pk_sub (by omega)]
      exact congrArg nI (by omega)
    · rw [hf] at hd
      have hd' : D s + 0 = cf_C g s := hd
      refine br_t rfl ?_
      rw [← hd', Nat.add_zero]
      exact G
theorem cf_0t (c : Bool) : cf_t c 0 = 0 := by cases c <;> rfl
theorem i_vc_loss {k : Nat} {u : SX} {v : SY} (I : i_Rel k u v) (hk : k + 5 ≤ 2560) (v1 : Int32) (v2 : Int32) : wpX_loss (fun r => wpY_loss (fun r' v' => r' = r ∧ i_Rel (k + 5) u v') v v1 v2) u v1 v2 := by
  obtain ⟨g, rfl, rfl, hg, hs⟩ := I
  have R : i_Rel (k + 5) (cf_A g) (cf_A g) := cf_rel hg hs
  unfold wpX_loss wpY_loss
  rcases cf_dec v1 v2 with hn | ⟨a, b, ha, hb, hn, rfl, rfl⟩
  · exact cf_pX0 hn (br_t rfl (cf_pY0 hn (br_t rfl ⟨rfl, R⟩)))
  · obtain ⟨w, hw⟩ := cf_L0 (cf_C g)
    obtain ⟨⟨t0, p1, p2, _, p4⟩, pm⟩ := cf_Ls hw
    obtain ⟨w', hw'⟩ := cf_L0 (cf_C (cf_put g a b 0))
    obtain ⟨⟨t1, q1, q2, _, q4⟩, qm⟩ := cf_Ls hw'
    have hD : ∀ s, cf_C (cf_put g a b 0) s + cf_t (cf_sp s a b) (g (6 * a + b)) = cf_C g s := by
      intro s
      have := cf_ch hs a b 0 s ha hb hn
      rw [cf_0t] at this
      exact this
    have hb0 : ∀ j, cf_put g a b 0 j ≤ 31 := cf_31 (cf_putb hg (Nat.zero_le _) a b)
    have hs0 := cf_puts hs a b 0 ha hb
    have hwb : w < 2 ^ 30 := by rw [← p4]; exact cf_Cb (cf_31 hg) t0
    refine cf_pX1 ha hb hn (br_f cf_10 (cf_leastX (m := 0) (o := 0) (cf_31 hg) (by decide) (by decide) ⟨pk_in (6 * a + b) 36 (by omega) (cf_ix a b), nm_r (e' := nI (g (6 * a + b))) (by rw [cf_ix, nI_clamp (by omega)]; rfl) ?_⟩))
    rw [hw]
    refine ⟨63, cf_loX (D := cf_C (cf_put g a b 0)) (cf_31 hg) ha hb hD hwb (fun x x1 x2 x3 => ?_) 62 1 w rfl (by decide) (Nat.le_refl _) (fun t t1 t2 => by omega) (Or.inl rfl) 63 (by decide)⟩
    have hx : x = w' := by
      have y1 := x2 t1 q1 q2
      have y2 : w' ≤ x := by
        rcases x3 with x3 | ⟨t, a1, a2, a3⟩
        · have := qm t0 p1 p2 (cf_f0 t0)
          have := hD t0
          omega
        · rw [a3]; exact qm t a1 a2 (cf_f0 t)
      omega
    refine cf_pY1 ha hb hn (br_f cf_10 ?_)
    unfold wpY_least
    refine cf_leastY (m := 0) (o := 0) (cf_31 hg) hs (by decide) (by decide) ⟨pk_in (6 * a + b) 36 (by omega) (cf_iy a b), nm_r (e' := nI (g (6 * a + b))) (by rw [cf_iy, nI_clamp (by omega)]; rfl) ?_⟩
    refine cf_putY (c := 0) ha hb ?_
    refine cf_leastY (m := 0) (o := 0) hb0 hs0 (by decide) (by decide) (cf_putY ha hb ?_)
    rw [hw, hw', cf_back hs a b 0 ha hb, hx]
    exact ⟨rfl, R⟩
/-! ===== tight ===== -/
theorem cf_tiX {post : Int32 → Prop} {g : Nat → Nat} {a b x y : Nat} {E : Int32} (ha : a < 6) (hb : b < 6) (hx : x < 6) (hy : y < 6) : ∀ k s, s + k = 63 → ((∀ t, s ≤ t → t ≤ 62 → cf_se g a b E t = true → cf_sp t x y = true) → post 1) → ((∃ t, s ≤ t ∧ t ≤ 62 ∧ cf_se g a b E t = true ∧ cf_sp t x y = false) → post 0) → ∀ n, k < n → wX_tight_34 post (nI a) (nI b) (nI x) (nI y) E (cf_A g) n (nI s) := by
  intro k
  induction k with
  | zero =>
    intro s hs h1 h0 n hn
    obtain ⟨n, rfl⟩ : ∃ m, n = m + 1 := ⟨n - 1, by omega⟩
    exact br_t (nI_le (a := 63) (by omega) (by omega)) (h1 (fun t t1 t2 => by omega))
  | succ k ih =>
    intro s hs h1 h0 n hn
    obtain ⟨n, rfl⟩ : ∃ m, n = m + 1 := ⟨n - 1, by omega⟩
    have G : (cf_se g a b E s = true → cf_sp s x y = true) → wX_tight_34 post (nI a) (nI b) (nI x) (nI y) E (cf_A g) n (nI (s + 1)) := by
      intro hz
      refine ih (s + 1) (by omega) (fun hh => h1 (fun t t1 t2 t3 => ?_)) (fun hh => h0 ?_) n (by omega)
      · by_cases z : t = s
        · rw [z] at t3 ⊢; exact hz t3
        · exact hh t (by omega) t2 t3
      · obtain ⟨t, t1, t2, t3⟩ := hh
        exact ⟨t, by omega, t2, t3⟩
    refine br_f (nI_ge (b := 63) (by omega) (by decide)) (cf_sepX (by omega) ha hb (fun hc => br_f cf_10 (cf_splits (by omega) hx hy (fun hp => br_f cf_10 (nm_r (nI_1 s) (G (fun _ => hp)))) (fun hp => br_t rfl (h0 ⟨s, Nat.le_refl _, by omega, hc, hp⟩)))) (fun hc => br_t rfl (nm_r (nI_1 s) (G (fun z => ?_)))))
    rw [hc] at z
    exact nomatch z
theorem cf_1t {c : Bool} (h : c = true) : cf_t c 1 = 1 := by rw [h]; rfl
theorem cf_ta {c : Bool} (h : c = true) (v : Nat) : cf_t c v = v := by rw [h]; rfl
theorem cf_tf {c : Bool} (h : c = false) (v : Nat) : cf_t c v = 0 := by rw [h]; rfl
theorem cf_tiM {g : Nat → Nat} {a b x y v w : Nat} (hg : ∀ j, g j ≤ 30) (hs : cf_S g) (hx : x < 6) (hy : y < 6) (hn : x ≠ y) (hv : cf_L (cf_C g) (2 ^ a) (2 ^ b) = some v) (hw : cf_L (cf_C (cf_put g x y (g (6 * x + y) + 1))) (2 ^ a) (2 ^ b) = some w) : ((∀ t, 1 ≤ t → t ≤ 62 → cf_se g a b (nI v) t = true → cf_sp t x y = true) → v < w) ∧ ((∃ t, 1 ≤ t ∧ t ≤ 62 ∧ cf_se g a b (nI v) t = true ∧ cf_sp t x y = false) → w ≤ v) := by
  obtain ⟨⟨t0, p1, p2, p3, p4⟩, pm⟩ := cf_Ls hv
  obtain ⟨⟨t1, q1, q2, q3, q4⟩, qm⟩ := cf_Ls hw
  have hvb : v < 2 ^ 30 := by rw [← p4]; exact cf_Cb (cf_31 hg) t0
  constructor
  · intro h
    have e := cf_ch hs x y (g (6 * x + y) + 1) t1 hx hy hn
    have m1 := pm t1 q1 q2 q3
    cases hp : cf_sp t1 x y with
    | true =>
      rw [cf_ta hp, cf_ta hp] at e
      omega
    | false =>
      rw [cf_tf hp, cf_tf hp] at e
      by_cases z : cf_C g t1 = v
      · have hse : cf_se g a b (nI v) t1 = true := by simp [cf_se, q3, z]
        have := h t1 q1 q2 hse
        rw [hp] at this
        exact nomatch this
      · omega
  · intro ⟨t, a1, a2, a3, a4⟩
    have e := cf_ch hs x y (g (6 * x + y) + 1) t hx hy hn
    rw [cf_tf a4, cf_tf a4] at e
    unfold cf_se at a3
    rw [Bool.and_eq_true, decide_eq_true_eq] at a3
    obtain ⟨b1, b2⟩ := a3
    have hc := cf_Cb (cf_31 hg) t
    rw [nI_eq (by omega) (by omega)] at b2
    have := qm t a1 a2 b1
    omega
theorem i_vc_tight {k : Nat} {u : SX} {v : SY} (I : i_Rel k u v) (hk : k + 5 ≤ 2560) (v1 : Int32) (v2 : Int32) (v3 : Int32) (v4 : Int32) : wpX_tight (fun r => wpY_tight (fun r' v' => r' = r ∧ i_Rel (k + 5) u v') v v1 v2 v3 v4) u v1 v2 v3 v4 := by
  obtain ⟨g, rfl, rfl, hg, hs⟩ := I
  have R : i_Rel (k + 5) (cf_A g) (cf_A g) := cf_rel hg hs
  unfold wpX_tight wpY_tight
  rcases cf_dec v1 v2 with hn | ⟨a, b, ha, hb, hn, rfl, rfl⟩
  · exact cf_pX0 hn (br_t rfl (cf_pY0 hn (br_t rfl ⟨rfl, R⟩)))
  rcases cf_dec v3 v4 with hm | ⟨x, y, hx, hy, hm, rfl, rfl⟩
  · exact cf_pX1 ha hb hn (br_f cf_10 (cf_pX0 hm (br_t rfl (cf_pY1 ha hb hn (br_f cf_10 (cf_pY0 hm (br_t rfl ⟨rfl, R⟩)))))))
  obtain ⟨v, hv⟩ := cf_L2 (cf_C g) ha hb hn
  obtain ⟨w, hw⟩ := cf_L2 (cf_C (cf_put g x y (g (6 * x + y) + 1))) ha hb hn
  obtain ⟨M1, M0⟩ := cf_tiM hg hs hx hy hm hv hw
  have hEv : cf_E g a b = nI v := by unfold cf_E; rw [hv]; rfl
  have hEw : cf_E (cf_put g x y (g (6 * x + y) + 1)) a b = nI w := by unfold cf_E; rw [hw]; rfl
  have hb1 : ∀ j, cf_put g x y (g (6 * x + y) + 1) j ≤ 31 := cf_putb (cf_31 hg) (Nat.succ_le_succ (hg _)) x y
  have hs1 := cf_puts hs x y (g (6 * x + y) + 1) hx hy
  have hvb : v < 2 ^ 30 := by
    obtain ⟨⟨t, _, _, _, e⟩, _⟩ := cf_Ls hv
    rw [← e]; exact cf_Cb (cf_31 hg) t
  have hwb : w < 2 ^ 30 := by
    obtain ⟨⟨t, _, _, _, e⟩, _⟩ := cf_Ls hw
    rw [← e]; exact cf_Cb hb1 t
  have Y : ∀ r : Int32, (w ≤ v → (0 : Int32) = r) → (v < w → (1 : Int32) = r) → wpY_tight (fun r' v' => r' = r ∧ i_Rel (k + 5) (cf_A g) v') (cf_A g) (nI a) (nI b) (nI x) (nI y) := by
    intro r r0 r1
    unfold wpY_tight
    refine cf_pY1 ha hb hn (br_f cf_10 (cf_pY1 hx hy hm (br_f cf_10 (cf_btY (cf_31 hg) hs ha hb hn ⟨pk_in (6 * x + y) 36 (by omega) (cf_iy x y), nm_r (e' := nI (g (6 * x + y))) (by rw [cf_iy, nI_clamp (by omega)]; rfl) ?_⟩))))
    rw [nI_1]
    refine cf_putY hx hy (cf_btY hb1 hs1 ha hb hn (cf_putY hx hy ?_))
    rw [hEv, hEw, cf_back hs x y _ hx hy]
    exact pk_le w v (fun hl => ⟨r0 hl, R⟩) (fun hl => ⟨r1 hl, R⟩)
  refine cf_pX1 ha hb hn (br_f cf_10 (cf_pX1 hx hy hm (br_f cf_10 (cf_lcX (cf_31 hg) ha hb ?_))))
  rw [hEv]
  refine ⟨63, cf_tiX ha hb hx hy 62 1 rfl (fun hh => ?_) (fun hh => ?_) 63 (by decide)⟩
  · have := M1 hh
    exact Y 1 (fun z => by omega) (fun _ => rfl)
  · have := M0 hh
    exact Y 0 (fun _ => rfl) (fun z => by omega)
end
