/-! ===== the cost of a side: X over the pairs, Y over the cells ===== -/
def cf_xi (g : Nat → Nat) (s a : Nat) : Nat → Nat
  | 0 => 0
  | k + 1 => cf_t (cf_sp s a (5 - k)) (g (6 * a + (5 - k))) + cf_xi g s a k
def cf_xo (g : Nat → Nat) (s : Nat) : Nat → Nat
  | 0 => 0
  | k + 1 => cf_xi g s (5 - k) k + cf_xo g s k
def cf_C (g : Nat → Nat) (s : Nat) : Nat := cf_xo g s 6
theorem cf_xiL {post : Int32 → Prop} {J4 : Int32 → Int32 → Prop} {g : Nat → Nat} {s a : Nat} (hs : s < 64) (ha : a < 6) : ∀ k b acc : Nat, b + k = 6 → ∀ n, k < n → J4 (nI (acc + cf_xi g s a k)) (nI (a + 1)) → wX_costOf_15 post J4 (nI s) (nI a) (cf_A g) n (nI acc) (nI b) := by
  intro k
  induction k with
  | zero =>
    intro b acc hb n hn h
    obtain ⟨n, rfl⟩ : ∃ m, n = m + 1 := ⟨n - 1, by omega⟩
    exact br_t (nI_le (a := 6) (by omega) (by omega)) (nm_r (nI_1 a) h)
  | succ k ih =>
    intro b acc hb n hn h
    obtain ⟨n, rfl⟩ : ∃ m, n = m + 1 := ⟨n - 1, by omega⟩
    have e : cf_xi g s a (k + 1) = cf_t (cf_sp s a b) (g (6 * a + b)) + cf_xi g s a k := by
      rw [show b = 5 - k by omega]; rfl
    rw [e] at h
    refine br_f (nI_ge (b := 6) (by omega) (by decide)) (cf_splits hs ha (by omega) (fun hc => ?_) (fun hc => ?_))
    · rw [hc] at h
      refine br_f cf_10 ⟨pk_in (6 * a + b) 36 (by omega) (cf_ix a b), nm_r (e' := nI (acc + g (6 * a + b))) ?_ (nm_r (nI_1 b) (ih (b + 1) _ (by omega) n (by omega) ?_))⟩
      · rw [cf_ix, nI_clamp (by omega)]
        exact nI_add _ _
      · rw [Nat.add_assoc]; exact h
    · rw [hc] at h
      refine br_t rfl (nm_r (nI_1 b) (ih (b + 1) _ (by omega) n (by omega) ?_))
      rw [show cf_t false (g (6 * a + b)) = 0 from rfl, Nat.zero_add] at h
      exact h
theorem cf_xoL {post : Int32 → Prop} {g : Nat → Nat} {s : Nat} (hs : s < 64) : ∀ k a acc : Nat, a + k = 6 → ∀ n, k < n → post (nI (acc + cf_xo g s k)) → wX_costOf_4 post (nI s) (cf_A g) n (nI acc) (nI a) := by
  intro k
  induction k with
  | zero =>
    intro a acc ha n hn h
    obtain ⟨n, rfl⟩ : ∃ m, n = m + 1 := ⟨n - 1, by omega⟩
    exact br_t (nI_le (a := 6) (by omega) (by omega)) h
  | succ k ih =>
    intro a acc ha n hn h
    obtain ⟨n, rfl⟩ : ∃ m, n = m + 1 := ⟨n - 1, by omega⟩
    have e : cf_xo g s (k + 1) = cf_xi g s a k + cf_xo g s k := by
      rw [show a = 5 - k by omega]; rfl
    rw [e, ← Nat.add_assoc] at h
    refine br_f (nI_ge (b := 6) (by omega) (by decide)) (nm_r (nI_1 a) ⟨k + 1, cf_xiL hs (by omega) k (a + 1) acc (by omega) (k + 1) (by omega) (ih (a + 1) _ (by omega) n (by omega) h)⟩)
theorem cf_costX {post : Int32 → Prop} {g : Nat → Nat} {s : Nat} (hs : s < 64) (h : post (nI (cf_C g s))) : wpX_costOf post (cf_A g) (nI s) :=
  ⟨7, cf_xoL hs 6 0 0 rfl 7 (by decide) (by rw [Nat.zero_add]; exact h)⟩
def cf_yc (g : Nat → Nat) (s : Nat) : Nat → Nat
  | 0 => 0
  | k + 1 => cf_t (s.testBit ((35 - k) / 6) && !s.testBit ((35 - k) % 6)) (g (35 - k)) + cf_yc g s k
theorem cf_ycL {post : Int32 → Prop} {g : Nat → Nat} {s : Nat} (hs : s < 64) : ∀ k c acc : Nat, c + k = 36 → ∀ n, k < n → post (nI (acc + cf_yc g s k)) → wY_costOf_4 post (nI s) (cf_A g) n (nI acc) (nI c) := by
  intro k
  induction k with
  | zero =>
    intro c acc hc n hn h
    obtain ⟨n, rfl⟩ : ∃ m, n = m + 1 := ⟨n - 1, by omega⟩
    exact br_t (nI_le (a := 36) (by omega) (by omega)) h
  | succ k ih =>
    intro c acc hc n hn h
    obtain ⟨n, rfl⟩ : ∃ m, n = m + 1 := ⟨n - 1, by omega⟩
    have e : cf_yc g s (k + 1) = cf_t (s.testBit (c / 6) && !s.testBit (c % 6)) (g c) + cf_yc g s k := by
      rw [show c = 35 - k by omega]; rfl
    rw [e] at h
    have e2 : nI c - nI c / 6 * 6 = nI (c % 6) := pk_rem (d := 6) (by omega) (by decide) (by decide)
    have e1 : nI c / 6 = nI (c / 6) := pk_div (d := 6) (by omega) (by decide) (by decide)
    have b1 := cf_bit s hs (c / 6) (by omega)
    have b2 := cf_bit s hs (c % 6) (by omega)
    refine br_f (nI_ge (b := 36) (by omega) (by decide)) ⟨cf_60, ?_⟩
    rw [e2, e1, b1, b2]
    cases h1 : s.testBit (c / 6)
    · rw [h1, Bool.false_and, show cf_t false (g c) = 0 from rfl, Nat.zero_add] at h
      exact br_f (by decide) (br_t rfl (nm_r (nI_1 c) (ih (c + 1) acc (by omega) n (by omega) h)))
    · cases h2 : s.testBit (c % 6)
      · rw [h1, h2, show cf_t (true && !false) (g c) = g c from rfl, ← Nat.add_assoc] at h
        refine br_t rfl ⟨cf_60, br_t rfl (br_f cf_10 ⟨pk_in c 36 (by omega), nm_r (e' := nI (acc + g c)) ?_ (nm_r (nI_1 c) (ih (c + 1) _ (by omega) n (by omega) h))⟩)⟩
        rw [nI_clamp (by omega)]
        exact nI_add _ _
      · rw [h1, h2, show cf_t (true && !true) (g c) = 0 from rfl, Nat.zero_add] at h
        exact br_t rfl ⟨cf_60, br_f (by decide) (br_t rfl (nm_r (nI_1 c) (ih (c + 1) acc (by omega) n (by omega) h)))⟩
theorem cf_Cx (g : Nat → Nat) (s : Nat) : cf_C g s = ((cf_t (cf_sp s 0 1) (g 1) + (cf_t (cf_sp s 0 2) (g 2) + (cf_t (cf_sp s 0 3) (g 3) + (cf_t (cf_sp s 0 4) (g 4) + (cf_t (cf_sp s 0 5) (g 5) + 0))))) + ((cf_t (cf_sp s 1 2) (g 8) + (cf_t (cf_sp s 1 3) (g 9) + (cf_t (cf_sp s 1 4) (g 10) + (cf_t (cf_sp s 1 5) (g 11) + 0)))) + ((cf_t (cf_sp s 2 3) (g 15) + (cf_t (cf_sp s 2 4) (g 16) + (cf_t (cf_sp s 2 5) (g 17) + 0))) + ((cf_t (cf_sp s 3 4) (g 22) + (cf_t (cf_sp s 3 5) (g 23) + 0)) + ((cf_t (cf_sp s 4 5) (g 29) + 0) + (0 + 0)))))) := rfl
set_option maxRecDepth 20000 in
theorem cf_Yx (g : Nat → Nat) (s : Nat) : cf_yc g s 36 = (cf_t (s.testBit 0 && !s.testBit 0) (g 0) + (cf_t (s.testBit 0 && !s.testBit 1) (g 1) + (cf_t (s.testBit 0 && !s.testBit 2) (g 2) + (cf_t (s.testBit 0 && !s.testBit 3) (g 3) + (cf_t (s.testBit 0 && !s.testBit 4) (g 4) + (cf_t (s.testBit 0 && !s.testBit 5) (g 5) + (cf_t (s.testBit 1 && !s.testBit 0) (g 6) + (cf_t (s.testBit 1 && !s.testBit 1) (g 7) + (cf_t (s.testBit 1 && !s.testBit 2) (g 8) + (cf_t (s.testBit 1 && !s.testBit 3) (g 9) + (cf_t (s.testBit 1 && !s.testBit 4) (g 10) + (cf_t (s.testBit 1 && !s.testBit 5) (g 11) + (cf_t (s.testBit 2 && !s.testBit 0) (g 12) + (cf_t (s.testBit 2 && !s.testBit 1) (g 13) + (cf_t (s.testBit 2 && !s.testBit 2) (g 14) + (cf_t (s.testBit 2 && !s.testBit 3) (g 15) + (cf_t (s.testBit 2 && !s.testBit 4) (g 16) + (cf_t (s.testBit 2 && !s.testBit 5) (g 17) + (cf_t (s.testBit 3 && !s.testBit 0) (g 18) + (cf_t (s.testBit 3 && !s.testBit 1) (g 19) + (cf_t (s.testBit 3 && !s.testBit 2) (g 20) + (cf_t (s.testBit 3 && !s.testBit 3) (g 21) + (cf_t (s.testBit 3 && !s.testBit 4) (g 22) + (cf_t (s.testBit 3 && !s.testBit 5) (g 23) + (cf_t (s.testBit 4 && !s.testBit 0) (g 24) + (cf_t (s.testBit 4 && !s.testBit 1) (g 25) + (cf_t (s.testBit 4 && !s.testBit 2) (g 26) + (cf_t (s.testBit 4 && !s.testBit 3) (g 27) + (cf_t (s.testBit 4 && !s.testBit 4) (g 28) + (cf_t (s.testBit 4 && !s.testBit 5) (g 29) + (cf_t (s.testBit 5 && !s.testBit 0) (g 30) + (cf_t (s.testBit 5 && !s.testBit 1) (g 31) + (cf_t (s.testBit 5 && !s.testBit 2) (g 32) + (cf_t (s.testBit 5 && !s.testBit 3) (g 33) + (cf_t (s.testBit 5 && !s.testBit 4) (g 34) + (cf_t (s.testBit 5 && !s.testBit 5) (g 35) + 0)))))))))))))))))))))))))))))))))))) := rfl
theorem cf_pr {g : Nat → Nat} (hg : cf_S g) (s a b : Nat) (ha : a < 6) (hb : b < 6) : cf_t (s.testBit a && !s.testBit b) (g (6 * a + b)) + cf_t (s.testBit b && !s.testBit a) (g (6 * b + a)) = cf_t (cf_sp s a b) (g (6 * a + b)) := by
  rw [← hg a b ha hb]
  unfold cf_sp
  cases s.testBit a <;> cases s.testBit b <;> simp [cf_t]
theorem cf_dg (s a v : Nat) : cf_t (s.testBit a && !s.testBit a) v = 0 := by
  cases s.testBit a <;> rfl
theorem cf_s36 (y00 y01 y02 y03 y04 y05 y10 y11 y12 y13 y14 y15 y20 y21 y22 y23 y24 y25 y30 y31 y32 y33 y34 y35 y40 y41 y42 y43 y44 y45 y50 y51 y52 y53 y54 y55 x01 x02 x03 x04 x05 x12 x13 x14 x15 x23 x24 x25 x34 x35 x45 : Nat) (h01 : y01 + y10 = x01) (h02 : y02 + y20 = x02) (h03 : y03 + y30 = x03) (h04 : y04 + y40 = x04) (h05 : y05 + y50 = x05) (h12 : y12 + y21 = x12) (h13 : y13 + y31 = x13) (h14 : y14 + y41 = x14) (h15 : y15 + y51 = x15) (h23 : y23 + y32 = x23) (h24 : y24 + y42 = x24) (h25 : y25 + y52 = x25) (h34 : y34 + y43 = x34) (h35 : y35 + y53 = x35) (h45 : y45 + y54 = x45) (h00 : y00 = 0) (h11 : y11 = 0) (h22 : y22 = 0) (h33 : y33 = 0) (h44 : y44 = 0) (h55 : y55 = 0) : (y00 + (y01 + (y02 + (y03 + (y04 + (y05 + (y10 + (y11 + (y12 + (y13 + (y14 + (y15 + (y20 + (y21 + (y22 + (y23 + (y24 + (y25 + (y30 + (y31 + (y32 + (y33 + (y34 + (y35 + (y40 + (y41 + (y42 + (y43 + (y44 + (y45 + (y50 + (y51 + (y52 + (y53 + (y54 + (y55 + 0)))))))))))))))))))))))))))))))))))) = ((x01 + (x02 + (x03 + (x04 + (x05 + 0))))) + ((x12 + (x13 + (x14 + (x15 + 0)))) + ((x23 + (x24 + (x25 + 0))) + ((x34 + (x35 + 0)) + ((x45 + 0) + (0 + 0)))))) := by
  subst h01 h02 h03 h04 h05 h12 h13 h14 h15 h23 h24 h25 h34 h35 h45 h00 h11 h22 h33 h44 h55
  omega
theorem cf_CY {g : Nat → Nat} (hg : cf_S g) (s : Nat) : cf_yc g s 36 = cf_C g s := by
  rw [cf_Yx, cf_Cx]
  exact cf_s36 _ _ _ _ _ _ _ _ _ _ _ _ _ _ _ _ _ _ _ _ _ _ _ _ _ _ _ _ _ _ _ _ _ _ _ _ _ _ _ _ _ _ _ _ _ _ _ _ _ _ _ (cf_pr hg s 0 1 (by decide) (by decide)) (cf_pr hg s 0 2 (by decide) (by decide)) (cf_pr hg s 0 3 (by decide) (by decide)) (cf_pr hg s 0 4 (by decide) (by decide)) (cf_pr hg s 0 5 (by decide) (by decide)) (cf_pr hg s 1 2 (by decide) (by decide)) (cf_pr hg s 1 3 (by decide) (by decide)) (cf_pr hg s 1 4 (by decide) (by decide)) (cf_pr hg s 1 5 (by decide) (by decide)) (cf_pr hg s 2 3 (by decide) (by decide)) (cf_pr hg s 2 4 (by decide) (by decide)) (cf_pr hg s 2 5 (by decide) (by decide)) (cf_pr hg s 3 4 (by decide) (by decide)) (cf_pr hg s 3 5 (by decide) (by decide)) (cf_pr hg s 4 5 (by decide) (by decide)) (cf_dg s 0 _) (cf_dg s 1 _) (cf_dg s 2 _) (cf_dg s 3 _) (cf_dg s 4 _) (cf_dg s 5 _)
theorem cf_costY {post : Int32 → Prop} {g : Nat → Nat} {s : Nat} (hg : cf_S g) (hs : s < 64) (h : post (nI (cf_C g s))) : wpY_costOf post (cf_A g) (nI s) :=
  ⟨37, cf_ycL hs 36 0 0 rfl 37 (by decide) (by rw [Nat.zero_add, cf_CY hg]; exact h)⟩
/-! ===== bounds, the other side of a side, a changed pair ===== -/
theorem cf_tle {c : Bool} {v m : Nat} (h : v ≤ m) : cf_t c v ≤ m := by
  cases c
  · exact Nat.zero_le _
  · exact h
theorem cf_xib {g : Nat → Nat} (hg : ∀ j, g j ≤ 31) (s a : Nat) : ∀ k, cf_xi g s a k ≤ 31 * k := by
  intro k
  induction k with
  | zero => exact Nat.le_refl _
  | succ k ih =>
    have h1 : cf_t (cf_sp s a (5 - k)) (g (6 * a + (5 - k))) ≤ 31 := cf_tle (hg _)
    show cf_t (cf_sp s a (5 - k)) (g (6 * a + (5 - k))) + cf_xi g s a k ≤ _
    omega
theorem cf_xob {g : Nat → Nat} (hg : ∀ j, g j ≤ 31) (s : Nat) : ∀ k, k ≤ 6 → cf_xo g s k ≤ 186 * k := by
  intro k
  induction k with
  | zero => intro _; exact Nat.le_refl _
  | succ k ih =>
    intro hk
    have h1 := cf_xib hg s (5 - k) k
    have h2 := ih (by omega)
    show cf_xi g s (5 - k) k + cf_xo g s k ≤ _
    omega
theorem cf_Cb {g : Nat → Nat} (hg : ∀ j, g j ≤ 31) (s : Nat) : cf_C g s < 2 ^ 30 := by
  have h := cf_xob hg s 6 (by decide)
  show cf_xo g s 6 < _
  omega
theorem cf_xic {g : Nat → Nat} {s a : Nat} (hs : s < 64) (ha : a < 6) : ∀ k, cf_xi g (63 - s) a k = cf_xi g s a k := by
  intro k
  induction k with
  | zero => rfl
  | succ k ih =>
    show cf_t (cf_sp (63 - s) a (5 - k)) _ + cf_xi g (63 - s) a k = cf_t (cf_sp s a (5 - k)) _ + cf_xi g s a k
    rw [ih, cf_co s hs a ha (5 - k) (by omega)]
theorem cf_xoc {g : Nat → Nat} {s : Nat} (hs : s < 64) : ∀ k, cf_xo g (63 - s) k = cf_xo g s k := by
  intro k
  induction k with
  | zero => rfl
  | succ k ih =>
    show cf_xi g (63 - s) (5 - k) k + cf_xo g (63 - s) k = cf_xi g s (5 - k) k + cf_xo g s k
    rw [ih, cf_xic hs (by omega)]
theorem cf_Cc (g : Nat → Nat) {s : Nat} (hs : s < 64) : cf_C g (63 - s) = cf_C g s := cf_xoc hs 6
def cf_put (g : Nat → Nat) (a b c : Nat) : Nat → Nat := fun j => if j = 6 * b + a then c else if j = 6 * a + b then c else g j
theorem cf_putA (g : Nat → Nat) (a b c : Nat) : upd (upd (cf_A g) (6 * a + b) (nI c)) (6 * b + a) (nI c) = cf_A (cf_put g a b c) := by
  funext j
  unfold upd cf_A cf_put
  by_cases h1 : j = 6 * b + a
  · simp only [if_pos h1]
  · by_cases h2 : j = 6 * a + b
    · simp only [if_neg h1, if_pos h2]
    · simp only [if_neg h1, if_neg h2]
theorem cf_putc (g : Nat → Nat) (a b c : Nat) : cf_put g a b c = cf_put g b a c := by
  funext j
  unfold cf_put
  by_cases h1 : j = 6 * b + a
  · by_cases h2 : j = 6 * a + b
    · simp only [if_pos h1, if_pos h2]
    · simp only [if_pos h1, if_neg h2]
  · by_cases h2 : j = 6 * a + b
    · simp only [if_neg h1, if_pos h2]
    · simp only [if_neg h1, if_neg h2]
theorem cf_putb {g : Nat → Nat} {m c : Nat} (hg : ∀ j, g j ≤ m) (hc : c ≤ m) (a b : Nat) : ∀ j, cf_put g a b c j ≤ m := by
  intro j
  unfold cf_put
  by_cases h1 : j = 6 * b + a
  · rw [if_pos h1]; exact hc
  · rw [if_neg h1]
    by_cases h2 : j = 6 * a + b
    · rw [if_pos h2]; exact hc
    · rw [if_neg h2]; exact hg j
theorem cf_puts {g : Nat → Nat} (hg : cf_S g) (a b c : Nat) (ha : a < 6) (hb : b < 6) : cf_S (cf_put g a b c) := by
  intro p q hp hq
  have e := hg p q hp hq
  unfold cf_put
  by_cases h1 : p = a ∧ q = b
  · rw [if_pos (show 6 * q + p = 6 * b + a by omega)]
    by_cases h2 : 6 * p + q = 6 * b + a
    · rw [if_pos h2]
    · rw [if_neg h2, if_pos (show 6 * p + q = 6 * a + b by omega)]
  · by_cases h2 : p = b ∧ q = a
    · rw [if_pos (show 6 * p + q = 6 * b + a by omega)]
      by_cases h3 : 6 * q + p = 6 * b + a
      · rw [if_pos h3]
      · rw [if_neg h3, if_pos (show 6 * q + p = 6 * a + b by omega)]
    · rw [if_neg (show ¬ 6 * p + q = 6 * b + a by omega), if_neg (show ¬ 6 * p + q = 6 * a + b by omega), if_neg (show ¬ 6 * q + p = 6 * b + a by omega), if_neg (show ¬ 6 * q + p = 6 * a + b by omega), e]
theorem cf_back {g : Nat → Nat} (hg : cf_S g) (a b c : Nat) (ha : a < 6) (hb : b < 6) : cf_put (cf_put g a b c) a b (g (6 * a + b)) = g := by
  funext j
  have e := hg a b ha hb
  unfold cf_put
  by_cases h1 : j = 6 * b + a
  · rw [if_pos h1, e, h1]
  · rw [if_neg h1]
    by_cases h2 : j = 6 * a + b
    · rw [if_pos h2, h2]
    · rw [if_neg h2, if_neg h1, if_neg h2]
theorem cf_su01 (x01 x02 x03 x04 x05 x12 x13 x14 x15 x23 x24 x25 x34 x35 x45 r : Nat) : ((r + (x02 + (x03 + (x04 + (x05 + 0))))) + ((x12 + (x13 + (x14 + (x15 + 0)))) + ((x23 + (x24 + (x25 + 0))) + ((x34 + (x35 + 0)) + ((x45 + 0) + (0 + 0)))))) + x01 = ((x01 + (x02 + (x03 + (x04 + (x05 + 0))))) + ((x12 + (x13 + (x14 + (x15 + 0)))) + ((x23 + (x24 + (x25 + 0))) + ((x34 + (x35 + 0)) + ((x45 + 0) + (0 + 0)))))) + r := by omega
theorem cf_ch01 (g : Nat → Nat) (c s : Nat) : cf_C (cf_put g 0 1 c) s + cf_t (cf_sp s 0 1) (g 1) = cf_C g s + cf_t (cf_sp s 0 1) c := by
  have e : cf_C (cf_put g 0 1 c) s = ((cf_t (cf_sp s 0 1) c + (cf_t (cf_sp s 0 2) (g 2) + (cf_t (cf_sp s 0 3) (g 3) + (cf_t (cf_sp s 0 4) (g 4) + (cf_t (cf_sp s 0 5) (g 5) + 0))))) + ((cf_t (cf_sp s 1 2) (g 8) + (cf_t (cf_sp s 1 3) (g 9) + (cf_t (cf_sp s 1 4) (g 10) + (cf_t (cf_sp s 1 5) (g 11) + 0)))) + ((cf_t (cf_sp s 2 3) (g 15) + (cf_t (cf_sp s 2 4) (g 16) + (cf_t (cf_sp s 2 5) (g 17) + 0))) + ((cf_t (cf_sp s 3 4) (g 22) + (cf_t (cf_sp s 3 5) (g 23) + 0)) + ((cf_t (cf_sp s 4 5) (g 29) + 0) + (0 + 0)))))) := rfl
  rw [e, cf_Cx]
  exact cf_su01 _ _ _ _ _ _ _ _ _ _ _ _ _ _ _ _
theorem cf_su02 (x01 x02 x03 x04 x05 x12 x13 x14 x15 x23 x24 x25 x34 x35 x45 r : Nat) : ((x01 + (r + (x03 + (x04 + (x05 + 0))))) + ((x12 + (x13 + (x14 + (x15 + 0)))) + ((x23 + (x24 + (x25 + 0))) + ((x34 + (x35 + 0)) + ((x45 + 0) + (0 + 0)))))) + x02 = ((x01 + (x02 + (x03 + (x04 + (x05 + 0))))) + ((x12 + (x13 + (x14 + (x15 + 0)))) + ((x23 + (x24 + (x25 + 0))) + ((x34 + (x35 + 0)) + ((x45 + 0) + (0 + 0)))))) + r := by omega
theorem cf_ch02 (g : Nat → Nat) (c s : Nat) : cf_C (cf_put g 0 2 c) s + cf_t (cf_sp s 0 2) (g 2) = cf_C g s + cf_t (cf_sp s 0 2) c := by
  have e : cf_C (cf_put g 0 2 c) s = ((cf_t (cf_sp s 0 1) (g 1) + (cf_t (cf_sp s 0 2) c + (cf_t (cf_sp s 0 3) (g 3) + (cf_t (cf_sp s 0 4) (g 4) + (cf_t (cf_sp s 0 5) (g 5) + 0))))) + ((cf_t (cf_sp s 1 2) (g 8) + (cf_t (cf_sp s 1 3) (g 9) + (cf_t (cf_sp s 1 4) (g 10) + (cf_t (cf_sp s 1 5) (g 11) + 0)))) + ((cf_t (cf_sp s 2 3) (g 15) + (cf_t (cf_sp s 2 4) (g 16) + (cf_t (cf_sp s 2 5) (g 17) + 0))) + ((cf_t (cf_sp s 3 4) (g 22) + (cf_t (cf_sp s 3 5) (g 23) + 0)) + ((cf_t (cf_sp s 4 5) (g 29) + 0) + (0 + 0)))))) := rfl
  rw [e, cf_Cx]
  exact cf_su02 _ _ _ _ _ _ _ _ _ _ _ _ _ _ _ _
theorem cf_su03 (x01 x02 x03 x04 x05 x12 x13 x14 x15 x23 x24 x25 x34 x35 x45 r : Nat) : ((x01 + (x02 + (r + (x04 + (x05 + 0))))) + ((x12 + (x13 + (x14 + (x15 + 0)))) + ((x23 + (x24 + (x25 + 0))) + ((x34 + (x35 + 0)) + ((x45 + 0) + (0 + 0)))))) + x03 = ((x01 + (x02 + (x03 + (x04 + (x05 + 0))))) + ((x12 + (x13 + (x14 + (x15 + 0)))) + ((x23 + (x24 + (x25 + 0))) + ((x34 + (x35 + 0)) + ((x45 + 0) + (0 + 0)))))) + r := by omega
theorem cf_ch03 (g : Nat → Nat) (c s : Nat) : cf_C (cf_put g 0 3 c) s + cf_t (cf_sp s 0 3) (g 3) = cf_C g s + cf_t (cf_sp s 0 3) c := by
  have e : cf_C (cf_put g 0 3 c) s = ((cf_t (cf_sp s 0 1) (g 1) + (cf_t (cf_sp s 0 2) (g 2) + (cf_t (cf_sp s 0 3) c + (cf_t (cf_sp s 0 4) (g 4) + (cf_t (cf_sp s 0 5) (g 5) + 0))))) + ((cf_t (cf_sp s 1 2) (g 8) + (cf_t (cf_sp s 1 3) (g 9) + (cf_t (cf_sp s 1 4) (g 10) + (cf_t (cf_sp s 1 5) (g 11) + 0)))) + ((cf_t (cf_sp s 2 3) (g 15) + (cf_t (cf_sp s 2 4) (g 16) + (cf_t (cf_sp s 2 5) (g 17) + 0))) + ((cf_t (cf_sp s 3 4) (g 22) + (cf_t (cf_sp s 3 5) (g 23) + 0)) + ((cf_t (cf_sp s 4 5) (g 29) + 0) + (0 + 0)))))) := rfl
  rw [e, cf_Cx]
  exact cf_su03 _ _ _ _ _ _ _ _ _ _ _ _ _ _ _ _
theorem cf_su04 (x01 x02 x03 x04 x05 x12 x13 x14 x15 x23 x24 x25 x34 x35 x45 r : Nat) : ((x01 + (x02 + (x03 + (r + (x05 + 0))))) + ((x12 + (x13 + (x14 + (x15 + 0)))) + ((x23 + (x24 + (x25 + 0))) + ((x34 + (x35 + 0)) + ((x45 + 0) + (0 + 0)))))) + x04 = ((x01 + (x02 + (x03 + (x04 + (x05 + 0))))) + ((x12 + (x13 + (x14 + (x15 + 0)))) + ((x23 + (x24 + (x25 + 0))) + ((x34 + (x35 + 0)) + ((x45 + 0) + (0 + 0)))))) + r := by omega
theorem cf_ch04 (g : Nat → Nat) (c s : Nat) : cf_C (cf_put g 0 4 c) s + cf_t (cf_sp s 0 4) (g 4) = cf_C g s + cf_t (cf_sp s 0 4) c := by
  have e : cf_C (cf_put g 0 4 c) s = ((cf_t (cf_sp s 0 1) (g 1) + (cf_t (cf_sp s 0 2) (g 2) + (cf_t (cf_sp s 0 3) (g 3) + (cf_t (cf_sp s 0 4) c + (cf_t (cf_sp s 0 5) (g 5) + 0))))) + ((cf_t (cf_sp s 1 2) (g 8) + (cf_t (cf_sp s 1 3) (g 9) + (cf_t (cf_sp s 1 4) (g 10) + (cf_t (cf_sp s 1 5) (g 11) + 0)))) + ((cf_t (cf_sp s 2 3) (g 15) + (cf_t (cf_sp s 2 4) (g 16) + (cf_t (cf_sp s 2 5) (g 17) + 0))) + ((cf_t (cf_sp s 3 4) (g 22) + (cf_t (cf_sp s 3 5) (g 23) + 0)) + ((cf_t (cf_sp s 4 5) (g 29) + 0) + (0 + 0)))))) := rfl
  rw [e, cf_Cx]
  exact cf_su04 _ _ _ _ _ _ _ _ _ _ _ _ _ _ _ _
theorem cf_su05 (x01 x02 x03 x04 x05 x12 x13 x14 x15 x23 x24 x25 x34 x35 x45 r : Nat) : ((x01 + (x02 + (x03 + (x04 + (r + 0))))) + ((x12 + (x13 + (x14 + (x15 + 0)))) + ((x23 + (x24 + (x25 + 0))) + ((x34 + (x35 + 0)) + ((x45 + 0) + (0 + 0)))))) + x05 = ((x01 + (x02 + (x03 + (x04 + (x05 + 0))))) + ((x12 + (x13 + (x14 + (x15 + 0)))) + ((x23 + (x24 + (x25 + 0))) + ((x34 + (x35 + 0)) + ((x45 + 0) + (0 + 0)))))) + r := by omega
theorem cf_ch05 (g : Nat → Nat) (c s : Nat) : cf_C (cf_put g 0 5 c) s + cf_t (cf_sp s 0 5) (g 5) = cf_C g s + cf_t (cf_sp s 0 5) c := by
  have e : cf_C (cf_put g 0 5 c) s = ((cf_t (cf_sp s 0 1) (g 1) + (cf_t (cf_sp s 0 2) (g 2) + (cf_t (cf_sp s 0 3) (g 3) + (cf_t (cf_sp s 0 4) (g 4) + (cf_t (cf_sp s 0 5) c + 0))))) + ((cf_t (cf_sp s 1 2) (g 8) + (cf_t (cf_sp s 1 3) (g 9) + (cf_t (cf_sp s 1 4) (g 10) + (cf_t (cf_sp s 1 5) (g 11) + 0)))) + ((cf_t (cf_sp s 2 3) (g 15) + (cf_t (cf_sp s 2 4) (g 16) + (cf_t (cf_sp s 2 5) (g 17) + 0))) + ((cf_t (cf_sp s 3 4) (g 22) + (cf_t (cf_sp s 3 5) (g 23) + 0)) + ((cf_t (cf_sp s 4 5) (g 29) + 0) + (0 + 0)))))) := rfl
  rw [e, cf_Cx]
  exact cf_su05 _ _ _ _ _ _ _ _ _ _ _ _ _ _ _ _
theorem cf_su12 (x01 x02 x03 x04 x05 x12 x13 x14 x15 x23 x24 x25 x34 x35 x45 r : Nat) : ((x01 + (x02 + (x03 + (x04 + (x05 + 0))))) + ((r + (x13 + (x14 + (x15 + 0)))) + ((x23 + (x24 + (x25 + 0))) + ((x34 + (x35 + 0)) + ((x45 + 0) + (0 + 0)))))) + x12 = ((x01 + (x02 + (x03 + (x04 + (x05 + 0))))) + ((x12 + (x13 + (x14 + (x15 + 0)))) + ((x23 + (x24 + (x25 + 0))) + ((x34 + (x35 + 0)) + ((x45 + 0) + (0 + 0)))))) + r := by omega
theorem cf_ch12 (g : Nat → Nat) (c s : Nat) : cf_C (cf_put g 1 2 c) s + cf_t (cf_sp s 1 2) (g 8) = cf_C g s + cf_t (cf_sp s 1 2) c := by
  have e : cf_C (cf_put g 1 2 c) s = ((cf_t (cf_sp s 0 1) (g 1) + (cf_t (cf_sp s 0 2) (g 2) + (cf_t (cf_sp s 0 3) (g 3) + (cf_t (cf_sp s 0 4) (g 4) + (cf_t (cf_sp s 0 5) (g 5) + 0))))) + ((cf_t (cf_sp s 1 2) c + (cf_t (cf_sp s 1 3) (g 9) + (cf_t (cf_sp s 1 4) (g 10) + (cf_t (cf_sp s 1 5) (g 11) + 0)))) + ((cf_t (cf_sp s 2 3) (g 15) + (cf_t (cf_sp s 2 4) (g 16) + (cf_t (cf_sp s 2 5) (g 17) + 0))) + ((cf_t (cf_sp s 3 4) (g 22) + (cf_t (cf_sp s 3 5) (g 23) + 0)) + ((cf_t (cf_sp s 4 5) (g 29) + 0) + (0 + 0)))))) := rfl
  rw [e, cf_Cx]
  exact cf_su12 _ _ _ _ _ _ _ _ _ _ _ _ _ _ _ _
theorem cf_su13 (x01 x02 x03 x04 x05 x12 x13 x14 x15 x23 x24 x25 x34 x35 x45 r : Nat) : ((x01 + (x02 + (x03 + (x04 + (x05 + 0))))) + ((x12 + (r + (x14 + (x15 + 0)))) + ((x23 + (x24 + (x25 + 0))) + ((x34 + (x35 + 0)) + ((x45 + 0) + (0 + 0)))))) + x13 = ((x01 + (x02 + (x03 + (x04 + (x05 + 0))))) + ((x12 + (x13 + (x14 + (x15 + 0)))) + ((x23 + (x24 + (x25 + 0))) + ((x34 + (x35 + 0)) + ((x45 + 0) + (0 + 0)))))) + r := by omega
theorem cf_ch13 (g : Nat → Nat) (c s : Nat) : cf_C (cf_put g 1 3 c) s + cf_t (cf_sp s 1 3) (g 9) = cf_C g s + cf_t (cf_sp s 1 3) c := by
  have e : cf_C (cf_put g 1 3 c) s = ((cf_t (cf_sp s 0 1) (g 1) + (cf_t (cf_sp s 0 2) (g 2) + (cf_t (cf_sp s 0 3) (g 3) + (cf_t (cf_sp s 0 4) (g 4) + (cf_t (cf_sp s 0 5) (g 5) + 0))))) + ((cf_t (cf_sp s 1 2) (g 8) + (cf_t (cf_sp s 1 3) c + (cf_t (cf_sp s 1 4) (g 10) + (cf_t (cf_sp s 1 5) (g 11) + 0)))) + ((cf_t (cf_sp s 2 3) (g 15) + (cf_t (cf_sp s 2 4) (g 16) + (cf_t (cf_sp s 2 5) (g 17) + 0))) + ((cf_t (cf_sp s 3 4) (g 22) + (cf_t (cf_sp s 3 5) (g 23) + 0)) + ((cf_t (cf_sp s 4 5) (g 29) + 0) + (0 + 0)))))) := rfl
  rw [e, cf_Cx]
  exact cf_su13 _ _ _ _ _ _ _ _ _ _ _ _ _ _ _ _
theorem cf_su14 (x01 x02 x03 x04 x05 x12 x13 x14 x15 x23 x24 x25 x34 x35 x45 r : Nat) : ((x01 + (x02 + (x03 + (x04 + (x05 + 0))))) + ((x12 + (x13 + (r + (x15 + 0)))) + ((x23 + (x24 + (x25 + 0))) + ((x34 + (x35 + 0)) + ((x45 + 0) + (0 + 0)))))) + x14 = ((x01 + (x02 + (x03 + (x04 + (x05 + 0))))) + ((x12 + (x13 + (x14 + (x15 + 0)))) + ((x23 + (x24 + (x25 + 0))) + ((x34 + (x35 + 0)) + ((x45 + 0) + (0 + 0)))))) + r := by omega
theorem cf_ch14 (g : Nat → Nat) (c s : Nat) : cf_C (cf_put g 1 4 c) s + cf_t (cf_sp s 1 4) (g 10) = cf_C g s + cf_t (cf_sp s 1 4) c := by
  have e : cf_C (cf_put g 1 4 c) s = ((cf_t (cf_sp s 0 1) (g 1) + (cf_t (cf_sp s 0 2) (g 2) + (cf_t (cf_sp s 0 3) (g 3) + (cf_t (cf_sp s 0 4) (g 4) + (cf_t (cf_sp s 0 5) (g 5) + 0))))) + ((cf_t (cf_sp s 1 2) (g 8) + (cf_t (cf_sp s 1 3) (g 9) + (cf_t (cf_sp s 1 4) c + (cf_t (cf_sp s 1 5) (g 11) + 0)))) + ((cf_t (cf_sp s 2 3) (g 15) + (cf_t (cf_sp s 2 4) (g 16) + (cf_t (cf_sp s 2 5) (g 17) + 0))) + ((cf_t (cf_sp s 3 4) (g 22) + (cf_t (cf_sp s 3 5) (g 23) + 0)) + ((cf_t (cf_sp s 4 5) (g 29) + 0) + (0 + 0)))))) := rfl
  rw [e, cf_Cx]
  exact cf_su14 _ _ _ _ _ _ _ _ _ _ _ _ _ _ _ _
theorem cf_su15 (x01 x02 x03 x04 x05 x12 x13 x14 x15 x23 x24 x25 x34 x35 x45 r : Nat) : ((x01 + (x02 + (x03 + (x04 + (x05 + 0))))) + ((x12 + (x13 + (x14 + (r + 0)))) + ((x23 + (x24 + (x25 + 0))) + ((x34 + (x35 + 0)) + ((x45 + 0) + (0 + 0)))))) + x15 = ((x01 + (x02 + (x03 + (x04 + (x05 + 0))))) + ((x12 + (x13 + (x14 + (x15 + 0)))) + ((x23 + (x24 + (x25 + 0))) + ((x34 + (x35 + 0)) + ((x45 + 0) + (0 + 0)))))) + r := by omega
theorem cf_ch15 (g : Nat → Nat) (c s : Nat) : cf_C (cf_put g 1 5 c) s + cf_t (cf_sp s 1 5) (g 11) = cf_C g s + cf_t (cf_sp s 1 5) c := by
  have e : cf_C (cf_put g 1 5 c) s = ((cf_t (cf_sp s 0 1) (g 1) + (cf_t (cf_sp s 0 2) (g 2) + (cf_t (cf_sp s 0 3) (g 3) + (cf_t (cf_sp s 0 4) (g 4) + (cf_t (cf_sp s 0 5) (g 5) + 0))))) + ((cf_t (cf_sp s 1 2) (g 8) + (cf_t (cf_sp s 1 3) (g 9) + (cf_t (cf_sp s 1 4) (g 10) + (cf_t (cf_sp s 1 5) c + 0)))) + ((cf_t (cf_sp s 2 3) (g 15) + (cf_t (cf_sp s 2 4) (g 16) + (cf_t (cf_sp s 2 5) (g 17) + 0))) + ((cf_t (cf_sp s 3 4) (g 22) + (cf_t (cf_sp s 3 5) (g 23) + 0)) + ((cf_t (cf_sp s 4 5) (g 29) + 0) + (0 + 0)))))) := rfl
  rw [e, cf_Cx]
  exact cf_su15 _ _ _ _ _ _ _ _ _ _ _ _ _ _ _ _
theorem cf_su23 (x01 x02 x03 x04 x05 x12 x13 x14 x15 x23 x24 x25 x34 x35 x45 r : Nat) : ((x01 + (x02 + (x03 + (x04 + (x05 + 0))))) + ((x12 + (x13 + (x14 + (x15 + 0)))) + ((r + (x24 + (x25 + 0))) + ((x34 + (x35 + 0)) + ((x45 + 0) + (0 + 0)))))) + x23 = ((x01 + (x02 + (x03 + (x04 + (x05 + 0))))) + ((x12 + (x13 + (x14 + (x15 + 0)))) + ((x23 + (x24 + (x25 + 0))) + ((x34 + (x35 + 0)) + ((x45 + 0) + (0 + 0)))))) + r := by omega
theorem cf_ch23 (g : Nat → Nat) (c s : Nat) : cf_C (cf_put g 2 3 c) s + cf_t (cf_sp s 2 3) (g 15) = cf_C g s + cf_t (cf_sp s 2 3) c := by
  have e : cf_C (cf_put g 2 3 c) s = ((cf_t (cf_sp s 0 1) (g 1) + (cf_t (cf_sp s 0 2) (g 2) + (cf_t (cf_sp s 0 3) (g 3) + (cf_t (cf_sp s 0 4) (g 4) + (cf_t (cf_sp s 0 5) (g 5) + 0))))) + ((cf_t (cf_sp s 1 2) (g 8) + (cf_t (cf_sp s 1 3) (g 9) + (cf_t (cf_sp s 1 4) (g 10) + (cf_t (cf_sp s 1 5) (g 11) + 0)))) + ((cf_t (cf_sp s 2 3) c + (cf_t (cf_sp s 2 4) (g 16) + (cf_t (cf_sp s 2 5) (g 17) + 0))) + ((cf_t (cf_sp s 3 4) (g 22) + (cf_t (cf_sp s 3 5) (g 23) + 0)) + ((cf_t (cf_sp s 4 5) (g 29) + 0) + (0 + 0)))))) := rfl
  rw [e, cf_Cx]
  exact cf_su23 _ _ _ _ _ _ _ _ _ _ _ _ _ _ _ _
theorem cf_su24 (x01 x02 x03 x04 x05 x12 x13 x14 x15 x23 x24 x25 x34 x35 x45 r : Nat) : ((x01 + (x02 + (x03 + (x04 + (x05 + 0))))) + ((x12 + (x13 + (x14 + (x15 + 0)))) + ((x23 + (r + (x25 + 0))) + ((x34 + (x35 + 0)) + ((x45 + 0) + (0 + 0)))))) + x24 = ((x01 + (x02 + (x03 + (x04 + (x05 + 0))))) + ((x12 + (x13 + (x14 + (x15 + 0)))) + ((x23 + (x24 + (x25 + 0))) + ((x34 + (x35 + 0)) + ((x45 + 0) + (0 + 0)))))) + r := by omega
theorem cf_ch24 (g : Nat → Nat) (c s : Nat) : cf_C (cf_put g 2 4 c) s + cf_t (cf_sp s 2 4) (g 16) = cf_C g s + cf_t (cf_sp s 2 4) c := by
  have e : cf_C (cf_put g 2 4 c) s = ((cf_t (cf_sp s 0 1) (g 1) + (cf_t (cf_sp s 0 2) (g 2) + (cf_t (cf_sp s 0 3) (g 3) + (cf_t (cf_sp s 0 4) (g 4) + (cf_t (cf_sp s 0 5) (g 5) + 0))))) + ((cf_t (cf_sp s 1 2) (g 8) + (cf_t (cf_sp s 1 3) (g 9) + (cf_t (cf_sp s 1 4) (g 10) + (cf_t (cf_sp s 1 5) (g 11) + 0)))) + ((cf_t (cf_sp s 2 3) (g 15) + (cf_t (cf_sp s 2 4) c + (cf_t (cf_sp s 2 5) (g 17) + 0))) + ((cf_t (cf_sp s 3 4) (g 22) + (cf_t (cf_sp s 3 5) (g 23) + 0)) + ((cf_t (cf_sp s 4 5) (g 29) + 0) + (0 + 0)))))) := rfl
  rw [e, cf_Cx]
  exact cf_su24 _ _ _ _ _ _ _ _ _ _ _ _ _ _ _ _
theorem cf_su25 (x01 x02 x03 x04 x05 x12 x13 x14 x15 x23 x24 x25 x34 x35 x45 r : Nat) : ((x01 + (x02 + (x03 + (x04 + (x05 + 0))))) + ((x12 + (x13 + (x14 + (x15 + 0)))) + ((x23 + (x24 + (r + 0))) + ((x34 + (x35 + 0)) + ((x45 + 0) + (0 + 0)))))) + x25 = ((x01 + (x02 + (x03 + (x04 + (x05 + 0))))) + ((x12 + (x13 + (x14 + (x15 + 0)))) + ((x23 + (x24 + (x25 + 0))) + ((x34 + (x35 + 0)) + ((x45 + 0) + (0 + 0)))))) + r := by omega
theorem cf_ch25 (g : Nat → Nat) (c s : Nat) : cf_C (cf_put g 2 5 c) s + cf_t (cf_sp s 2 5) (g 17) = cf_C g s + cf_t (cf_sp s 2 5) c := by
  have e : cf_C (cf_put g 2 5 c) s = ((cf_t (cf_sp s 0 1) (g 1) + (cf_t (cf_sp s 0 2) (g 2) + (cf_t (cf_sp s 0 3) (g 3) + (cf_t (cf_sp s 0 4) (g 4) + (cf_t (cf_sp s 0 5) (g 5) + 0))))) + ((cf_t (cf_sp s 1 2) (g 8) + (cf_t (cf_sp s 1 3) (g 9) + (cf_t (cf_sp s 1 4) (g 10) + (cf_t (cf_sp s 1 5) (g 11) + 0)))) + ((cf_t (cf_sp s 2 3) (g 15) + (cf_t (cf_sp s 2 4) (g 16) + (cf_t (cf_sp s 2 5) c + 0))) + ((cf_t (cf_sp s 3 4) (g 22) + (cf_t (cf_sp s 3 5) (g 23) + 0)) + ((cf_t (cf_sp s 4 5) (g 29) + 0) + (0 + 0)))))) := rfl
  rw [e, cf_Cx]
  exact cf_su25 _ _ _ _ _ _ _ _ _ _ _ _ _ _ _ _
theorem cf_su34 (x01 x02 x03 x04 x05 x12 x13 x14 x15 x23 x24 x25 x34 x35 x45 r : Nat) : ((x01 + (x02 + (x03 + (x04 + (x05 + 0))))) + ((x12 + (x13 + (x14 + (x15 + 0)))) + ((x23 + (x24 + (x25 + 0))) + ((r + (x35 + 0)) + ((x45 + 0) + (0 + 0)))))) + x34 = ((x01 + (x02 + (x03 + (x04 + (x05 + 0))))) + ((x12 + (x13 + (x14 + (x15 + 0)))) + ((x23 + (x24 + (x25 + 0))) + ((x34 + (x35 + 0)) + ((x45 + 0) + (0 + 0)))))) + r := by omega
theorem cf_ch34 (g : Nat → Nat) (c s : Nat) : cf_C (cf_put g 3 4 c) s + cf_t (cf_sp s 3 4) (g 22) = cf_C g s + cf_t (cf_sp s 3 4) c := by
  have e : cf_C (cf_put g 3 4 c) s = ((cf_t (cf_sp s 0 1) (g 1) + (cf_t (cf_sp s 0 2) (g 2) + (cf_t (cf_sp s 0 3) (g 3) + (cf_t (cf_sp s 0 4) (g 4) + (cf_t (cf_sp s 0 5) (g 5) + 0))))) + ((cf_t (cf_sp s 1 2) (g 8) + (cf_t (cf_sp s 1 3) (g 9) + (cf_t (cf_sp s 1 4) (g 10) + (cf_t (cf_sp s 1 5) (g 11) + 0)))) + ((cf_t (cf_sp s 2 3) (g 15) + (cf_t (cf_sp s 2 4) (g 16) + (cf_t (cf_sp s 2 5) (g 17) + 0))) + ((cf_t (cf_sp s 3 4) c + (cf_t (cf_sp s 3 5) (g 23) + 0)) + ((cf_t (cf_sp s 4 5) (g 29) + 0) + (0 + 0)))))) := rfl
  rw [e, cf_Cx]
  exact cf_su34 _ _ _ _ _ _ _ _ _ _ _ _ _ _ _ _
theorem cf_su35 (x01 x02 x03 x04 x05 x12 x13 x14 x15 x23 x24 x25 x34 x35 x45 r : Nat) : ((x01 + (x02 + (x03 + (x04 + (x05 + 0))))) + ((x12 + (x13 + (x14 + (x15 + 0)))) + ((x23 + (x24 + (x25 + 0))) + ((x34 + (r + 0)) + ((x45 + 0) + (0 + 0)))))) + x35 = ((x01 + (x02 + (x03 + (x04 + (x05 + 0))))) + ((x12 + (x13 + (x14 + (x15 + 0)))) + ((x23 + (x24 + (x25 + 0))) + ((x34 + (x35 + 0)) + ((x45 + 0) + (0 + 0)))))) + r := by omega
theorem cf_ch35 (g : Nat → Nat) (c s : Nat) : cf_C (cf_put g 3 5 c) s + cf_t (cf_sp s 3 5) (g 23) = cf_C g s + cf_t (cf_sp s 3 5) c := by
  have e : cf_C (cf_put g 3 5 c) s = ((cf_t (cf_sp s 0 1) (g 1) + (cf_t (cf_sp s 0 2) (g 2) + (cf_t (cf_sp s 0 3) (g 3) + (cf_t (cf_sp s 0 4) (g 4) + (cf_t (cf_sp s 0 5) (g 5) + 0))))) + ((cf_t (cf_sp s 1 2) (g 8) + (cf_t (cf_sp s 1 3) (g 9) + (cf_t (cf_sp s 1 4) (g 10) + (cf_t (cf_sp s 1 5) (g 11) + 0)))) + ((cf_t (cf_sp s 2 3) (g 15) + (cf_t (cf_sp s 2 4) (g 16) + (cf_t (cf_sp s 2 5) (g 17) + 0))) + ((cf_t (cf_sp s 3 4) (g 22) + (cf_t (cf_sp s 3 5) c + 0)) + ((cf_t (cf_sp s 4 5) (g 29) + 0) + (0 + 0)))))) := rfl
  rw [e, cf_Cx]
  exact cf_su35 _ _ _ _ _ _ _ _ _ _ _ _ _ _ _ _
theorem cf_su45 (x01 x02 x03 x04 x05 x12 x13 x14 x15 x23 x24 x25 x34 x35 x45 r : Nat) : ((x01 + (x02 + (x03 + (x04 + (x05 + 0))))) + ((x12 + (x13 + (x14 + (x15 + 0)))) + ((x23 + (x24 + (x25 + 0))) + ((x34 + (x35 + 0)) + ((r + 0) + (0 + 0)))))) + x45 = ((x01 + (x02 + (x03 + (x04 + (x05 + 0))))) + ((x12 + (x13 + (x14 + (x15 + 0)))) + ((x23 + (x24 + (x25 + 0))) + ((x34 + (x35 + 0)) + ((x45 + 0) + (0 + 0)))))) + r := by omega
theorem cf_ch45 (g : Nat → Nat) (c s : Nat) : cf_C (cf_put g 4 5 c) s + cf_t (cf_sp s 4 5) (g 29) = cf_C g s + cf_t (cf_sp s 4 5) c := by
  have e : cf_C (cf_put g 4 5 c) s = ((cf_t (cf_sp s 0 1) (g 1) + (cf_t (cf_sp s 0 2) (g 2) + (cf_t (cf_sp s 0 3) (g 3) + (cf_t (cf_sp s 0 4) (g 4) + (cf_t (cf_sp s 0 5) (g 5) + 0))))) + ((cf_t (cf_sp s 1 2) (g 8) + (cf_t (cf_sp s 1 3) (g 9) + (cf_t (cf_sp s 1 4) (g 10) + (cf_t (cf_sp s 1 5) (g 11) + 0)))) + ((cf_t (cf_sp s 2 3) (g 15) + (cf_t (cf_sp s 2 4) (g 16) + (cf_t (cf_sp s 2 5) (g 17) + 0))) + ((cf_t (cf_sp s 3 4) (g 22) + (cf_t (cf_sp s 3 5) (g 23) + 0)) + ((cf_t (cf_sp s 4 5) c + 0) + (0 + 0)))))) := rfl
  rw [e, cf_Cx]
  exact cf_su45 _ _ _ _ _ _ _ _ _ _ _ _ _ _ _ _
theorem cf_chl (g : Nat → Nat) (a b c s : Nat) (h : a < b) (hb : b < 6) : cf_C (cf_put g a b c) s + cf_t (cf_sp s a b) (g (6 * a + b)) = cf_C g s + cf_t (cf_sp s a b) c := by
  obtain ⟨rfl, rfl⟩ | ⟨rfl, rfl⟩ | ⟨rfl, rfl⟩ | ⟨rfl, rfl⟩ | ⟨rfl, rfl⟩ | ⟨rfl, rfl⟩ | ⟨rfl, rfl⟩ | ⟨rfl, rfl⟩ | ⟨rfl, rfl⟩ | ⟨rfl, rfl⟩ | ⟨rfl, rfl⟩ | ⟨rfl, rfl⟩ | ⟨rfl, rfl⟩ | ⟨rfl, rfl⟩ | ⟨rfl, rfl⟩ : (a = 0 ∧ b = 1) ∨ (a = 0 ∧ b = 2) ∨ (a = 0 ∧ b = 3) ∨ (a = 0 ∧ b = 4) ∨ (a = 0 ∧ b = 5) ∨ (a = 1 ∧ b = 2) ∨ (a = 1 ∧ b = 3) ∨ (a = 1 ∧ b = 4) ∨ (a = 1 ∧ b = 5) ∨ (a = 2 ∧ b = 3) ∨ (a = 2 ∧ b = 4) ∨ (a = 2 ∧ b = 5) ∨ (a = 3 ∧ b = 4) ∨ (a = 3 ∧ b = 5) ∨ (a = 4 ∧ b = 5) := by omega
  · exact cf_ch01 g c s
  · exact cf_ch02 g c s
  · exact cf_ch03 g c s
  · exact cf_ch04 g c s
  · exact cf_ch05 g c s
  · exact cf_ch12 g c s
  · exact cf_ch13 g c s
  · exact cf_ch14 g c s
  · exact cf_ch15 g c s
  · exact cf_ch23 g c s
  · exact cf_ch24 g c s
  · exact cf_ch25 g c s
  · exact cf_ch34 g c s
  · exact cf_ch35 g c s
  · exact cf_ch45 g c s
theorem cf_ch {g : Nat → Nat} (hg : cf_S g) (a b c s : Nat) (ha : a < 6) (hb : b < 6) (hn : a ≠ b) : cf_C (cf_put g a b c) s + cf_t (cf_sp s a b) (g (6 * a + b)) = cf_C g s + cf_t (cf_sp s a b) c := by
  by_cases h : a < b
  · exact cf_chl g a b c s h hb
  · rw [cf_putc, cf_spc s a b, hg a b ha hb]
    exact cf_chl g b a c s (by omega) ha
