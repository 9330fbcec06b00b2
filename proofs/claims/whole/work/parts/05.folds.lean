/-! ===== core, reach: one fold over the sides ===== -/
def cf_fo (S : Nat → Bool) (f : Int32 → Int32 → Int32) : Nat → Int32 → Int32
  | 0, acc => acc
  | k + 1, acc => cf_fo S f k (bif S (62 - k) then f acc (nI (62 - k)) else acc)
theorem cf_coreX {post : Int32 → Prop} {g : Nat → Nat} {a b : Nat} {E : Int32} (ha : a < 6) (hb : b < 6) : ∀ k s acc, s + k = 63 → ∀ n, k < n → post (cf_fo (cf_se g a b E) (fun x y => x &&& y) k acc) → wX_core_28 post (nI a) (nI b) E (cf_A g) n acc (nI s) := by
  intro k
  induction k with
  | zero =>
    intro s acc hs n hn h
    obtain ⟨n, rfl⟩ : ∃ m, n = m + 1 := ⟨n - 1, by omega⟩
    exact br_t (nI_le (a := 63) (by omega) (by omega)) h
  | succ k ih =>
    intro s acc hs n hn h
    obtain ⟨n, rfl⟩ : ∃ m, n = m + 1 := ⟨n - 1, by omega⟩
    have e : cf_fo (cf_se g a b E) (fun x y => x &&& y) (k + 1) acc = cf_fo (cf_se g a b E) (fun x y => x &&& y) k (bif cf_se g a b E s then acc &&& nI s else acc) := by
      rw [show s = 62 - k by omega]; rfl
    rw [e] at h
    refine br_f (nI_ge (b := 63) (by omega) (by decide)) (cf_sepX (by omega) ha hb (fun hc => ?_) (fun hc => ?_))
    · rw [hc] at h
      exact br_f cf_10 (nm_e (nm_r (nI_1 s) (ih (s + 1) _ (by omega) n (by omega) h)))
    · rw [hc] at h
      exact br_t rfl (nm_r (nI_1 s) (ih (s + 1) _ (by omega) n (by omega) h))
theorem cf_reachX {post : Int32 → Prop} {g : Nat → Nat} {a b : Nat} {E : Int32} (ha : a < 6) (hb : b < 6) : ∀ k s acc, s + k = 63 → ∀ n, k < n → post (cf_fo (cf_se g a b E) (fun x y => x ||| y) k acc) → wX_reach_27 post (nI a) (nI b) E (cf_A g) n acc (nI s) := by
  intro k
  induction k with
  | zero =>
    intro s acc hs n hn h
    obtain ⟨n, rfl⟩ : ∃ m, n = m + 1 := ⟨n - 1, by omega⟩
    exact br_t (nI_le (a := 63) (by omega) (by omega)) h
  | succ k ih =>
    intro s acc hs n hn h
    obtain ⟨n, rfl⟩ : ∃ m, n = m + 1 := ⟨n - 1, by omega⟩
    have e : cf_fo (cf_se g a b E) (fun x y => x ||| y) (k + 1) acc = cf_fo (cf_se g a b E) (fun x y => x ||| y) k (bif cf_se g a b E s then acc ||| nI s else acc) := by
      rw [show s = 62 - k by omega]; rfl
    rw [e] at h
    refine br_f (nI_ge (b := 63) (by omega) (by decide)) (cf_sepX (by omega) ha hb (fun hc => ?_) (fun hc => ?_))
    · rw [hc] at h
      exact br_f cf_10 (nm_e (nm_r (nI_1 s) (ih (s + 1) _ (by omega) n (by omega) h)))
    · rw [hc] at h
      exact br_t rfl (nm_r (nI_1 s) (ih (s + 1) _ (by omega) n (by omega) h))
theorem cf_coreY {post : Int32 → Prop} {g : Nat → Nat} {a b : Nat} (hg : ∀ j, g j ≤ 31) (hy : cf_S g) (ha : a < 6) (hb : b < 6) (hn : a ≠ b) : ∀ k s acc, s + k = 63 → ∀ n, k < n → post (cf_fo (cf_se g a b (cf_E g a b)) (fun x y => x &&& y) k acc) → wY_core_19 post (nI a) (nI b) (cf_A g) n acc (nI s) := by
  intro k
  induction k with
  | zero =>
    intro s acc hs n hk h
    obtain ⟨n, rfl⟩ : ∃ m, n = m + 1 := ⟨n - 1, by omega⟩
    exact br_t (nI_lt (a := 62) (by omega) (by omega)) h
  | succ k ih =>
    intro s acc hs n hk h
    obtain ⟨n, rfl⟩ : ∃ m, n = m + 1 := ⟨n - 1, by omega⟩
    have h64 : s < 64 := by omega
    have e : cf_fo (cf_se g a b (cf_E g a b)) (fun x y => x &&& y) (k + 1) acc = cf_fo (cf_se g a b (cf_E g a b)) (fun x y => x &&& y) k (bif cf_se g a b (cf_E g a b) s then acc &&& nI s else acc) := by
      rw [show s = 62 - k by omega]; rfl
    rw [e] at h
    have hf := cf_ftb s h64 a ha b hb
    refine br_f (nI_nlt (a := 62) (by omega) (by decide)) (cf_pY1 ha hb hn (br_f cf_10 ?_))
    rw [cf_bit s h64 a ha, cf_bit s h64 b hb]
    cases h1 : s.testBit a
    · have z : cf_se g a b (cf_E g a b) s = false := by simp [cf_se, hf, h1]
      rw [z] at h
      exact br_f (by decide) (br_t rfl (nm_r (nI_1 s) (ih (s + 1) _ (by omega) n (by omega) h)))
    · cases h2 : s.testBit b
      · refine br_t rfl (br_t rfl (cf_costY hy h64 (cf_btY hg hy ha hb hn ?_)))
        by_cases hc : nI (cf_C g s) = cf_E g a b
        · have z : cf_se g a b (cf_E g a b) s = true := by simp [cf_se, hf, h1, h2, hc]
          rw [z] at h
          exact br_t hc (br_f cf_10 (nm_e (nm_r (nI_1 s) (ih (s + 1) _ (by omega) n (by omega) h))))
        · have z : cf_se g a b (cf_E g a b) s = false := by simp [cf_se, hc]
          rw [z] at h
          exact br_f hc (br_t rfl (nm_r (nI_1 s) (ih (s + 1) _ (by omega) n (by omega) h)))
      · have z : cf_se g a b (cf_E g a b) s = false := by simp [cf_se, hf, h2]
        rw [z] at h
        exact br_t rfl (br_f (by decide) (br_t rfl (nm_r (nI_1 s) (ih (s + 1) _ (by omega) n (by omega) h))))
theorem cf_reachY {post : Int32 → Prop} {g : Nat → Nat} {a b : Nat} (hg : ∀ j, g j ≤ 31) (hy : cf_S g) (ha : a < 6) (hb : b < 6) (hn : a ≠ b) : ∀ k s acc, s + k = 63 → ∀ n, k < n → post (cf_fo (cf_se g a b (cf_E g a b)) (fun x y => x ||| y) k acc) → wY_reach_5 post (nI a) (nI b) (cf_A g) n acc (nI s) := by
  intro k
  induction k with
  | zero =>
    intro s acc hs n hk h
    obtain ⟨n, rfl⟩ : ∃ m, n = m + 1 := ⟨n - 1, by omega⟩
    exact br_t (nI_lt (a := 62) (by omega) (by omega)) h
  | succ k ih =>
    intro s acc hs n hk h
    obtain ⟨n, rfl⟩ : ∃ m, n = m + 1 := ⟨n - 1, by omega⟩
    have h64 : s < 64 := by omega
    have e : cf_fo (cf_se g a b (cf_E g a b)) (fun x y => x ||| y) (k + 1) acc = cf_fo (cf_se g a b (cf_E g a b)) (fun x y => x ||| y) k (bif cf_se g a b (cf_E g a b) s then acc ||| nI s else acc) := by
      rw [show s = 62 - k by omega]; rfl
    rw [e] at h
    have hf := cf_ftb s h64 a ha b hb
    refine br_f (nI_nlt (a := 62) (by omega) (by decide)) (cf_pY1 ha hb hn (br_f cf_10 ?_))
    rw [cf_bit s h64 a ha, cf_bit s h64 b hb]
    cases h1 : s.testBit a
    · have z : cf_se g a b (cf_E g a b) s = false := by simp [cf_se, hf, h1]
      rw [z] at h
      exact br_f (by decide) (br_t rfl (nm_r (nI_1 s) (ih (s + 1) _ (by omega) n (by omega) h)))
    · cases h2 : s.testBit b
      · refine br_t rfl (br_t rfl (cf_costY hy h64 (cf_btY hg hy ha hb hn ?_)))
        by_cases hc : nI (cf_C g s) = cf_E g a b
        · have z : cf_se g a b (cf_E g a b) s = true := by simp [cf_se, hf, h1, h2, hc]
          rw [z] at h
          exact br_t hc (br_f cf_10 (nm_e (nm_r (nI_1 s) (ih (s + 1) _ (by omega) n (by omega) h))))
        · have z : cf_se g a b (cf_E g a b) s = false := by simp [cf_se, hc]
          rw [z] at h
          exact br_f hc (br_t rfl (nm_r (nI_1 s) (ih (s + 1) _ (by omega) n (by omega) h)))
      · have z : cf_se g a b (cf_E g a b) s = false := by simp [cf_se, hf, h2]
        rw [z] at h
        exact br_t rfl (br_f (by decide) (br_t rfl (nm_r (nI_1 s) (ih (s + 1) _ (by omega) n (by omega) h))))
theorem cf_coreY0 {post : Int32 → Prop} {v : SY} {p q : Int32} (hn : cf_np p q) (h : post 0) : wY_core_19 post p q v 1 0 1 := br_f (by decide) (cf_pY0 hn (br_t rfl h))
theorem cf_reachY0 {post : Int32 → Prop} {v : SY} {p q : Int32} (hn : cf_np p q) (h : post 0) : wY_reach_5 post p q v 1 0 1 := br_f (by decide) (cf_pY0 hn (br_t rfl h))
theorem i_vc_core {k : Nat} {u : SX} {v : SY} (I : i_Rel k u v) (hk : k + 5 ≤ 2560) (v1 : Int32) (v2 : Int32) : wpX_core (fun r => wpY_core (fun r' => r' = r ∧ i_Rel (k + 5) u v) v v1 v2) u v1 v2 := by
  obtain ⟨g, rfl, rfl, hg, hs⟩ := I
  have R : i_Rel (k + 5) (cf_A g) (cf_A g) := cf_rel hg hs
  unfold wpX_core wpY_core
  rcases cf_dec v1 v2 with hn | ⟨a, b, ha, hb, hn, rfl, rfl⟩
  · exact cf_pX0 hn (br_t rfl (cf_pY0 hn (br_t rfl ⟨1, cf_coreY0 hn ⟨rfl, R⟩⟩)))
  · refine cf_pX1 ha hb hn (br_f cf_10 (cf_lcX (cf_31 hg) ha hb ⟨63, cf_coreX ha hb 62 1 63 rfl 63 (by decide) ?_⟩))
    exact cf_pY1 ha hb hn (br_f cf_10 ⟨63, cf_coreY (cf_31 hg) hs ha hb hn 62 1 63 rfl 63 (by decide) ⟨rfl, R⟩⟩)
theorem i_vc_reach {k : Nat} {u : SX} {v : SY} (I : i_Rel k u v) (hk : k + 5 ≤ 2560) (v1 : Int32) (v2 : Int32) : wpX_reach (fun r => wpY_reach (fun r' => r' = r ∧ i_Rel (k + 5) u v) v v1 v2) u v1 v2 := by
  obtain ⟨g, rfl, rfl, hg, hs⟩ := I
  have R : i_Rel (k + 5) (cf_A g) (cf_A g) := cf_rel hg hs
  unfold wpX_reach wpY_reach
  rcases cf_dec v1 v2 with hn | ⟨a, b, ha, hb, hn, rfl, rfl⟩
  · exact cf_pX0 hn (br_t rfl ⟨1, cf_reachY0 hn ⟨rfl, R⟩⟩)
  · refine cf_pX1 ha hb hn (br_f cf_10 (cf_lcX (cf_31 hg) ha hb ⟨63, cf_reachX ha hb 62 1 0 rfl 63 (by decide) ?_⟩))
    exact ⟨63, cf_reachY (cf_31 hg) hs ha hb hn 62 1 0 rfl 63 (by decide) ⟨rfl, R⟩⟩
/-! ===== pairsAtLeast: the same fifteen steps in the same order ===== -/
def cf_pT (g : Nat → Nat) (c : Int32) (a b : Nat) (acc : Int32) : Int32 := if cf_E g a b < c then acc else acc + 1
def cf_pi (T : Nat → Nat → Int32 → Int32) (a : Nat) : Nat → Int32 → Int32
  | 0, acc => acc
  | k + 1, acc => cf_pi T a k (T a (5 - k) acc)
def cf_po (T : Nat → Nat → Int32 → Int32) : Nat → Int32 → Int32
  | 0, acc => acc
  | k + 1, acc => cf_po T k (cf_pi T (5 - k) k acc)
def cf_py (T : Nat → Nat → Int32 → Int32) : Nat → Int32 → Int32
  | 0, acc => acc
  | k + 1, acc => cf_py T k (if (35 - k) % 6 ≤ (35 - k) / 6 then acc else T ((35 - k) / 6) ((35 - k) % 6) acc)
theorem cf_pe (T : Nat → Nat → Int32 → Int32) (acc : Int32) : cf_py T 36 acc = cf_po T 6 acc := rfl
theorem cf_piL {post : Int32 → Prop} {J4 : Int32 → Int32 → Prop} {g : Nat → Nat} {c : Int32} {a : Nat} (hg : ∀ j, g j ≤ 31) (ha : a < 6) : ∀ (k b : Nat) (acc : Int32), b + k = 6 → ∀ n, k < n → J4 (cf_pi (cf_pT g c) a k acc) (nI (a + 1)) → wX_pairsAtLeast_15 post J4 c (nI a) (cf_A g) n acc (nI b) := by
  intro k
  induction k with
  | zero =>
    intro b acc hb n hn h
    obtain ⟨n, rfl⟩ : ∃ m, n = m + 1 := ⟨n - 1, by omega⟩
    exact br_t (nI_le (a := 6) (by omega) (by omega)) (nm_r (nI_1 a) h)
  | succ k ih =>
    intro b acc hb n hn h
    obtain ⟨n, rfl⟩ : ∃ m, n = m + 1 := ⟨n - 1, by omega⟩
    have e : cf_pi (cf_pT g c) a (k + 1) acc = cf_pi (cf_pT g c) a k (cf_pT g c a b acc) := by
      rw [show b = 5 - k by omega]; rfl
    rw [e] at h
    unfold cf_pT at h
    refine br_f (nI_ge (b := 6) (by omega) (by decide)) (cf_lcX hg ha (by omega) ?_)
    by_cases hc : cf_E g a b < c
    · rw [if_pos hc] at h
      exact br_t hc (nm_r (nI_1 b) (ih (b + 1) _ (by omega) n (by omega) h))
    · rw [if_neg hc] at h
      exact br_f hc (nm_e (nm_r (nI_1 b) (ih (b + 1) _ (by omega) n (by omega) h)))
theorem cf_poL {post : Int32 → Prop} {g : Nat → Nat} {c : Int32} (hg : ∀ j, g j ≤ 31) : ∀ (k a : Nat) (acc : Int32), a + k = 6 → ∀ n, k < n → post (cf_po (cf_pT g c) k acc) → wX_pairsAtLeast_4 post c (cf_A g) n acc (nI a) := by
  intro k
  induction k with
  | zero =>
    intro a acc ha n hn h
    obtain ⟨n, rfl⟩ : ∃ m, n = m + 1 := ⟨n - 1, by omega⟩
    exact br_t (nI_le (a := 6) (by omega) (by omega)) h
  | succ k ih =>
    intro a acc ha n hn h
    obtain ⟨n, rfl⟩ : ∃ m, n = m + 1 := ⟨n - 1, by omega⟩
    have e : cf_po (cf_pT g c) (k + 1) acc = cf_po (cf_pT g c) k (cf_pi (cf_pT g c) a k acc) := by
      rw [show a = 5 - k by omega]; rfl
    rw [e] at h
    exact br_f (nI_ge (b := 6) (by omega) (by decide)) (nm_r (nI_1 a) ⟨k + 1, cf_piL hg (by omega) k (a + 1) acc (by omega) (k + 1) (by omega) (ih (a + 1) _ (by omega) n (by omega) h)⟩)
theorem cf_pyL {post : Int32 → Prop} {g : Nat → Nat} {c : Int32} (hg : ∀ j, g j ≤ 31) (hy : cf_S g) : ∀ (k p : Nat) (acc : Int32), p + k = 36 → ∀ n, k < n → post (cf_py (cf_pT g c) k acc) → wY_pairsAtLeast_4 post c (cf_A g) n acc (nI p) := by
  intro k
  induction k with
  | zero =>
    intro p acc hp n hn h
    obtain ⟨n, rfl⟩ : ∃ m, n = m + 1 := ⟨n - 1, by omega⟩
    exact br_t (nI_le (a := 36) (by omega) (by omega)) h
  | succ k ih =>
    intro p acc hp n hn h
    obtain ⟨n, rfl⟩ : ∃ m, n = m + 1 := ⟨n - 1, by omega⟩
    have e : cf_py (cf_pT g c) (k + 1) acc = cf_py (cf_pT g c) k (if p % 6 ≤ p / 6 then acc else cf_pT g c (p / 6) (p % 6) acc) := by
      rw [show p = 35 - k by omega]; rfl
    rw [e] at h
    have e2 : nI p - nI p / 6 * 6 = nI (p % 6) := pk_rem (d := 6) (by omega) (by decide) (by decide)
    have e1 : nI p / 6 = nI (p / 6) := pk_div (d := 6) (by omega) (by decide) (by decide)
    refine br_f (nI_ge (b := 36) (by omega) (by decide)) ⟨cf_60, cf_60, ?_⟩
    rw [e2, e1]
    refine pk_le (p % 6) (p / 6) (fun hl => ?_) (fun hl => ⟨cf_60, cf_60, cf_btY hg hy (by omega) (by omega) (by omega) ?_⟩)
    · rw [if_pos hl] at h
      exact nm_r (nI_1 p) (ih (p + 1) _ (by omega) n (by omega) h)
    · rw [if_neg (by omega)] at h
      unfold cf_pT at h
      by_cases hc : cf_E g (p / 6) (p % 6) < c
      · rw [if_pos hc] at h
        exact br_t hc (nm_r (nI_1 p) (ih (p + 1) _ (by omega) n (by omega) h))
      · rw [if_neg hc] at h
        exact br_f hc (nm_e (nm_r (nI_1 p) (ih (p + 1) _ (by omega) n (by omega) h)))
theorem i_vc_pairsAtLeast {k : Nat} {u : SX} {v : SY} (I : i_Rel k u v) (hk : k + 5 ≤ 2560) (v1 : Int32) : wpX_pairsAtLeast (fun r => wpY_pairsAtLeast (fun r' => r' = r ∧ i_Rel (k + 5) u v) v v1) u v1 := by
  obtain ⟨g, rfl, rfl, hg, hs⟩ := I
  have R : i_Rel (k + 5) (cf_A g) (cf_A g) := cf_rel hg hs
  refine ⟨7, cf_poL (cf_31 hg) 6 0 0 rfl 7 (by decide) ?_⟩
  exact ⟨37, cf_pyL (cf_31 hg) hs 36 0 0 rfl 37 (by decide) ⟨cf_pe _ _, R⟩⟩
/-! ===== group ===== -/
def cf_gT (g : Nat → Nat) (c : Int32) (a b : Nat) (acc : Int32) : Int32 := if b = a then acc else if cf_E g a b < c then acc else acc ||| nI (2 ^ b)
def cf_go (T : Nat → Int32 → Int32) : Nat → Int32 → Int32
  | 0, acc => acc
  | k + 1, acc => cf_go T k (T (5 - k) acc)
theorem cf_goX {post : Int32 → Prop} {g : Nat → Nat} {c : Int32} {a : Nat} (hg : ∀ j, g j ≤ 31) (ha : a < 6) : ∀ (k b : Nat) (acc : Int32), b + k = 6 → ∀ n, k < n → post (cf_go (cf_gT g c a) k acc) → wX_group_16 post (nI a) c (cf_A g) n acc (nI b) := by
  intro k
  induction k with
  | zero =>
    intro b acc hb n hn h
    obtain ⟨n, rfl⟩ : ∃ m, n = m + 1 := ⟨n - 1, by omega⟩
    exact br_t (nI_le (a := 6) (by omega) (by omega)) h
  | succ k ih =>
    intro b acc hb n hn h
    obtain ⟨n, rfl⟩ : ∃ m, n = m + 1 := ⟨n - 1, by omega⟩
    have e : cf_go (cf_gT g c a) (k + 1) acc = cf_go (cf_gT g c a) k (cf_gT g c a b acc) := by
      rw [show b = 5 - k by omega]; rfl
    rw [e] at h
    unfold cf_gT at h
    have hb6 : b < 6 := by omega
    refine br_f (nI_ge (b := 6) (by omega) (by decide)) (pk_eq b a (fun hl => ?_) (fun hl => cf_lcX hg ha hb6 ?_))
    · rw [if_pos hl] at h
      exact nm_r (nI_1 b) (ih (b + 1) _ (by omega) n (by omega) h)
    · rw [if_neg hl] at h
      by_cases hc : cf_E g a b < c
      · rw [if_pos hc] at h
        exact br_t hc (nm_r (nI_1 b) (ih (b + 1) _ (by omega) n (by omega) h))
      · rw [if_neg hc] at h
        exact br_f hc (nm_r (e' := acc ||| nI (2 ^ b)) (by rw [cf_shl b hb6]) (nm_r (nI_1 b) (ih (b + 1) _ (by omega) n (by omega) h)))
theorem cf_goY {post : Int32 → Prop} {g : Nat → Nat} {c : Int32} {a : Nat} (hg : ∀ j, g j ≤ 31) (hy : cf_S g) (ha : a < 6) : ∀ (k b : Nat) (acc : Int32), b + k = 6 → ∀ n, k < n → post (cf_go (cf_gT g c a) k acc) → wY_group_20 post (nI a) c (cf_A g) n acc (nI b) := by
  intro k
  induction k with
  | zero =>
    intro b acc hb n hn h
    obtain ⟨n, rfl⟩ : ∃ m, n = m + 1 := ⟨n - 1, by omega⟩
    exact br_t (nI_le (a := 6) (by omega) (by omega)) h
  | succ k ih =>
    intro b acc hb n hn h
    obtain ⟨n, rfl⟩ : ∃ m, n = m + 1 := ⟨n - 1, by omega⟩
    have e : cf_go (cf_gT g c a) (k + 1) acc = cf_go (cf_gT g c a) k (cf_gT g c a b acc) := by
      rw [show b = 5 - k by omega]; rfl
    rw [e] at h
    unfold cf_gT at h
    have hb6 : b < 6 := by omega
    refine br_f (nI_ge (b := 6) (by omega) (by decide)) ?_
    by_cases hl : b = a
    · rw [if_pos hl] at h
      refine cf_pY0 ?_ (br_t rfl (nm_r (nI_1 b) (ih (b + 1) _ (by omega) n (by omega) h)))
      intro p q hp hq e1 e2
      rw [nI_eq (by omega) (by omega)] at e1 e2
      omega
    · rw [if_neg hl] at h
      refine cf_pY1 ha hb6 (fun z => hl z.symm) (br_f cf_10 (cf_btY hg hy ha hb6 (fun z => hl z.symm) ?_))
      by_cases hc : cf_E g a b < c
      · rw [if_pos hc] at h
        exact br_t hc (nm_r (nI_1 b) (ih (b + 1) _ (by omega) n (by omega) h))
      · rw [if_neg hc] at h
        exact br_f hc (nm_r (e' := acc ||| nI (2 ^ b)) (by rw [cf_shl b hb6]) (nm_r (nI_1 b) (ih (b + 1) _ (by omega) n (by omega) h)))
theorem cf_goY0 {post : Int32 → Prop} {v : SY} {p c : Int32} (hp : ∀ a : Nat, a < 6 → ¬ p = nI a) (h : post 0) : ∀ (k b : Nat), b + k = 6 → ∀ n, k < n → wY_group_20 post p c v n 0 (nI b) := by
  intro k
  induction k with
  | zero =>
    intro b hb n hn
    obtain ⟨n, rfl⟩ : ∃ m, n = m + 1 := ⟨n - 1, by omega⟩
    exact br_t (nI_le (a := 6) (by omega) (by omega)) h
  | succ k ih =>
    intro b hb n hn
    obtain ⟨n, rfl⟩ : ∃ m, n = m + 1 := ⟨n - 1, by omega⟩
    exact br_f (nI_ge (b := 6) (by omega) (by decide)) (cf_pY0 (fun a _ ha _ e _ => absurd e (hp a ha)) (br_t rfl (nm_r (nI_1 b) (ih (b + 1) (by omega) n (by omega)))))
theorem i_vc_group {k : Nat} {u : SX} {v : SY} (I : i_Rel k u v) (hk : k + 5 ≤ 2560) (v1 : Int32) (v2 : Int32) : wpX_group (fun r => wpY_group (fun r' => r' = r ∧ i_Rel (k + 5) u v) v v1 v2) u v1 v2 := by
  obtain ⟨g, rfl, rfl, hg, hs⟩ := I
  have R : i_Rel (k + 5) (cf_A g) (cf_A g) := cf_rel hg hs
  unfold wpX_group wpY_group
  by_cases h0 : v1 < 0
  · have hp : ∀ a : Nat, a < 6 → ¬ v1 = nI a := fun a ha e => nI_pos (n := a) (by omega) (by rw [← e]; exact h0)
    exact br_t h0 (br_t rfl (br_t h0 ⟨7, cf_goY0 hp ⟨rfl, R⟩ 6 0 rfl 7 (by decide)⟩))
  · by_cases h5 : (5 : Int32) < v1
    · have hp : ∀ a : Nat, a < 6 → ¬ v1 = nI a := fun a ha e => nI_nlt (a := 5) (b := a) (by omega) (by decide) (by rw [← e]; exact h5)
      have h6 : (6 : Int32) ≤ v1 := by
        by_cases z : (6 : Int32) ≤ v1
        · exact z
        · obtain ⟨a, ha, e⟩ := cf_ge h0 z
          exact absurd e (hp a ha)
      exact br_f h0 (br_t h6 (br_t rfl (br_f h0 (br_t h5 ⟨7, cf_goY0 hp ⟨rfl, R⟩ 6 0 rfl 7 (by decide)⟩))))
    · obtain ⟨a, ha, rfl⟩ := cf_ge5 h0 h5
      refine cf_plX ha (br_f cf_10 (nm_r (cf_shl a ha) ⟨7, cf_goX (cf_31 hg) ha 6 0 _ rfl 7 (by decide) ?_⟩))
      exact br_f h0 (br_f h5 (nm_r (cf_shl a ha) ⟨7, cf_goY (cf_31 hg) hs ha 6 0 _ rfl 7 (by decide) ⟨rfl, R⟩⟩))
