/-! ===== the least cost over the sides that hold m and not o ===== -/
def cf_st (C : Nat → Nat) (m o s : Nat) (acc : Option Nat) : Option Nat := if cf_ft s m o = true then (match acc with | none => some (C s) | some v => if C s < v then some (C s) else some v) else acc
def cf_lo (C : Nat → Nat) (m o : Nat) : Nat → Option Nat → Option Nat
  | 0, acc => acc
  | k + 1, acc => cf_lo C m o k (cf_st C m o (62 - k) acc)
def cf_e : Option Nat → Int32
  | none => -1
  | some v => nI v
def cf_L (C : Nat → Nat) (m o : Nat) : Option Nat := cf_lo C m o 62 none
theorem cf_st0 {C : Nat → Nat} {m o s : Nat} {acc : Option Nat} (h : cf_ft s m o = false) : cf_st C m o s acc = acc := by
  unfold cf_st
  rw [if_neg (by rw [h]; decide)]
theorem cf_stn {C : Nat → Nat} {m o s : Nat} (h : cf_ft s m o = true) : cf_st C m o s none = some (C s) := by
  unfold cf_st
  rw [if_pos h]
theorem cf_stk {C : Nat → Nat} {m o s v : Nat} (h : cf_ft s m o = true) (hv : v ≤ C s) : cf_st C m o s (some v) = some v := by
  unfold cf_st
  rw [if_pos h]
  exact if_neg (by omega)
theorem cf_stl {C : Nat → Nat} {m o s v : Nat} (h : cf_ft s m o = true) (hv : C s < v) : cf_st C m o s (some v) = some (C s) := by
  unfold cf_st
  rw [if_pos h]
  exact if_pos hv
def cf_ok (acc : Option Nat) : Prop := ∀ v, acc = some v → v < 2 ^ 30
theorem cf_ok0 : cf_ok none := fun _ h => nomatch h
theorem cf_ok1 {v : Nat} (h : v < 2 ^ 30) : cf_ok (some v) := fun w e => by cases e; exact h
theorem cf_leX {post : Int32 → Prop} {g : Nat → Nat} {m o : Nat} (hg : ∀ j, g j ≤ 31) (hm : m < 64) (ho : o < 64) : ∀ k s acc, s + k = 63 → cf_ok acc → ∀ n, k < n → post (cf_e (cf_lo (cf_C g) m o k acc)) → wX_leastCost_5 post (nI m) (nI o) (cf_A g) n (cf_e acc) (nI s) := by
  intro k
  induction k with
  | zero =>
    intro s acc hs hk n hn h
    obtain ⟨n, rfl⟩ : ∃ m, n = m + 1 := ⟨n - 1, by omega⟩
    exact br_t (nI_le (a := 63) (by omega) (by omega)) h
  | succ k ih =>
    intro s acc hs hk n hn h
    obtain ⟨n, rfl⟩ : ∃ m, n = m + 1 := ⟨n - 1, by omega⟩
    have e : cf_lo (cf_C g) m o (k + 1) acc = cf_lo (cf_C g) m o k (cf_st (cf_C g) m o s acc) := by
      rw [show s = 62 - k by omega]; rfl
    rw [e] at h
    have hc := cf_Cb hg s
    refine br_f (nI_ge (b := 63) (by omega) (by decide)) (cf_fits (by omega) hm ho (fun hf => br_f cf_10 (cf_costX (by omega) ?_)) (fun hf => br_t rfl (nm_r (nI_1 s) (ih (s + 1) acc (by omega) hk n (by omega) ?_))))
    · cases acc with
      | none =>
        rw [cf_stn hf] at h
        exact br_t rfl (nm_r (nI_1 s) (ih (s + 1) (some (cf_C g s)) (by omega) (cf_ok1 hc) n (by omega) h))
      | some v =>
        have hv := hk v rfl
        refine br_f (cf_nm (by omega)) (pk_le v (cf_C g s) (fun hl => nm_r (nI_1 s) (ih (s + 1) (some v) (by omega) hk n (by omega) ?_)) (fun hl => nm_r (nI_1 s) (ih (s + 1) (some (cf_C g s)) (by omega) (cf_ok1 hc) n (by omega) ?_)))
        · rw [cf_stk hf hl] at h; exact h
        · rw [cf_stl hf hl] at h; exact h
    · rw [cf_st0 hf] at h; exact h
theorem cf_leastX {post : Int32 → Prop} {g : Nat → Nat} {m o : Nat} (hg : ∀ j, g j ≤ 31) (hm : m < 64) (ho : o < 64) (h : post (cf_e (cf_L (cf_C g) m o))) : wpX_leastCost post (cf_A g) (nI m) (nI o) :=
  ⟨63, cf_leX hg hm ho 62 1 none rfl cf_ok0 63 (by decide) h⟩
theorem cf_leY {post : Int32 → Prop} {g : Nat → Nat} {m o : Nat} (hg : ∀ j, g j ≤ 31) (hy : cf_S g) (hm : m < 64) (ho : o < 64) : ∀ k s acc, s + k = 63 → cf_ok acc → ∀ n, k < n → post (cf_e (cf_lo (cf_C g) m o k acc)) → wY_cheapest_5 post (nI m) (nI o) (cf_A g) n (cf_e acc) (nI s) := by
  intro k
  induction k with
  | zero =>
    intro s acc hs hk n hn h
    obtain ⟨n, rfl⟩ : ∃ m, n = m + 1 := ⟨n - 1, by omega⟩
    exact br_t (nI_lt (a := 62) (by omega) (by omega)) h
  | succ k ih =>
    intro s acc hs hk n hn h
    obtain ⟨n, rfl⟩ : ∃ m, n = m + 1 := ⟨n - 1, by omega⟩
    have e : cf_lo (cf_C g) m o (k + 1) acc = cf_lo (cf_C g) m o k (cf_st (cf_C g) m o s acc) := by
      rw [show s = 62 - k by omega]; rfl
    rw [e] at h
    have hc := cf_Cb hg s
    have h64 : s < 64 := by omega
    refine br_f (nI_nlt (a := 62) (by omega) (by decide)) ?_
    by_cases f1 : s &&& m = m
    · refine br_t ((cf_f3 s h64 m hm).mpr f1) ?_
      by_cases f2 : s &&& o = 0
      · have hf : cf_ft s m o = true := by simp [cf_ft, f1, f2]
        refine br_t ((cf_f4 s h64 o ho).mpr f2) (cf_costY hy h64 ?_)
        cases acc with
        | none =>
          rw [cf_stn hf] at h
          exact br_t cf_m1 (nm_r (nI_1 s) (ih (s + 1) (some (cf_C g s)) (by omega) (cf_ok1 hc) n (by omega) h))
        | some v =>
          have hv := hk v rfl
          refine br_f (nI_pos (by omega)) (pk_le v (cf_C g s) (fun hl => nm_r (nI_1 s) (ih (s + 1) (some v) (by omega) hk n (by omega) ?_)) (fun hl => nm_r (nI_1 s) (ih (s + 1) (some (cf_C g s)) (by omega) (cf_ok1 hc) n (by omega) ?_)))
          · rw [cf_stk hf hl] at h; exact h
          · rw [cf_stl hf hl] at h; exact h
      · have hf : cf_ft s m o = false := by simp [cf_ft, f2]
        rw [cf_st0 hf] at h
        exact br_f (fun z => f2 ((cf_f4 s h64 o ho).mp z)) (nm_r (nI_1 s) (ih (s + 1) acc (by omega) hk n (by omega) h))
    · have hf : cf_ft s m o = false := by simp [cf_ft, f1]
      rw [cf_st0 hf] at h
      exact br_f (fun z => f1 ((cf_f3 s h64 m hm).mp z)) (nm_r (nI_1 s) (ih (s + 1) acc (by omega) hk n (by omega) h))
theorem cf_leastY {post : Int32 → Prop} {g : Nat → Nat} {m o : Nat} (hg : ∀ j, g j ≤ 31) (hy : cf_S g) (hm : m < 64) (ho : o < 64) (h : post (cf_e (cf_L (cf_C g) m o))) : wpY_cheapest post (cf_A g) (nI m) (nI o) :=
  ⟨63, cf_leY hg hy hm ho 62 1 none rfl cf_ok0 63 (by decide) h⟩
/-! ===== what the least cost is ===== -/
theorem cf_los (C : Nat → Nat) (m o : Nat) : ∀ k acc v, k ≤ 62 → cf_lo C m o k acc = some v → (acc = some v ∨ ∃ t, 63 - k ≤ t ∧ t ≤ 62 ∧ cf_ft t m o = true ∧ C t = v) ∧ (∀ w, acc = some w → v ≤ w) ∧ (∀ t, 63 - k ≤ t → t ≤ 62 → cf_ft t m o = true → v ≤ C t) := by
  intro k
  induction k with
  | zero =>
    intro acc v _ h
    have h' : acc = some v := h
    subst h'
    exact ⟨Or.inl rfl, fun w e => by cases e; exact Nat.le_refl _, fun t h1 h2 _ => by omega⟩
  | succ k ih =>
    intro acc v hk h
    obtain ⟨i1, i2, i3⟩ := ih (cf_st C m o (62 - k) acc) v (by omega) h
    have hr : ∀ t, 63 - (k + 1) ≤ t → t = 62 - k ∨ 63 - k ≤ t := fun t ht => by omega
    have hi : ∀ t, 63 - k ≤ t → 63 - (k + 1) ≤ t := fun t ht => by omega
    have h62 : 63 - (k + 1) ≤ 62 - k := by omega
    cases hf : cf_ft (62 - k) m o with
    | false =>
      rw [cf_st0 hf] at i1 i2
      refine ⟨?_, i2, fun t h1 h2 h3 => ?_⟩
      · rcases i1 with i1 | ⟨t, a1, a2, a3, a4⟩
        · exact Or.inl i1
        · exact Or.inr ⟨t, hi t a1, a2, a3, a4⟩
      · rcases hr t h1 with z | z
        · rw [z, hf] at h3; exact nomatch h3
        · exact i3 t z h2 h3
    | true =>
      cases acc with
      | none =>
        rw [cf_stn hf] at i1 i2
        have iv := i2 _ rfl
        refine ⟨?_, (fun w e => nomatch e), fun t h1 h2 h3 => ?_⟩
        · rcases i1 with i1 | ⟨t, a1, a2, a3, a4⟩
          · exact Or.inr ⟨62 - k, h62, by omega, hf, by injection i1⟩
          · exact Or.inr ⟨t, hi t a1, a2, a3, a4⟩
        · rcases hr t h1 with z | z
          · rw [z]; exact iv
          · exact i3 t z h2 h3
      | some u =>
        by_cases hu : C (62 - k) < u
        · rw [cf_stl hf hu] at i1 i2
          have iv := i2 _ rfl
          refine ⟨?_, fun w e => ?_, fun t h1 h2 h3 => ?_⟩
          · rcases i1 with i1 | ⟨t, a1, a2, a3, a4⟩
            · exact Or.inr ⟨62 - k, h62, by omega, hf, by injection i1⟩
            · exact Or.inr ⟨t, hi t a1, a2, a3, a4⟩
          · injection e with e; omega
          · rcases hr t h1 with z | z
            · rw [z]; exact iv
            · exact i3 t z h2 h3
        · rw [cf_stk hf (by omega)] at i1 i2
          have iv := i2 _ rfl
          refine ⟨?_, i2, fun t h1 h2 h3 => ?_⟩
          · rcases i1 with i1 | ⟨t, a1, a2, a3, a4⟩
            · exact Or.inl i1
            · exact Or.inr ⟨t, hi t a1, a2, a3, a4⟩
          · rcases hr t h1 with z | z
            · rw [z]; omega
            · exact i3 t z h2 h3
theorem cf_lon (C : Nat → Nat) (m o : Nat) : ∀ k acc, k ≤ 62 → cf_lo C m o k acc = none → acc = none ∧ ∀ t, 63 - k ≤ t → t ≤ 62 → cf_ft t m o = false := by
  intro k
  induction k with
  | zero =>
    intro acc _ h
    exact ⟨h, fun t h1 h2 => by omega⟩
  | succ k ih =>
    intro acc hk h
    obtain ⟨i1, i2⟩ := ih (cf_st C m o (62 - k) acc) (by omega) h
    cases hf : cf_ft (62 - k) m o with
    | false =>
      rw [cf_st0 hf] at i1
      refine ⟨i1, fun t h1 h2 => ?_⟩
      by_cases z : t = 62 - k
      · rw [z]; exact hf
      · exact i2 t (by omega) h2
    | true =>
      cases acc with
      | none => rw [cf_stn hf] at i1; exact nomatch i1
      | some u =>
        by_cases hu : C (62 - k) < u
        · rw [cf_stl hf hu] at i1; exact nomatch i1
        · rw [cf_stk hf (by omega)] at i1; exact nomatch i1
theorem cf_Ls {C : Nat → Nat} {m o v : Nat} (h : cf_L C m o = some v) : (∃ t, 1 ≤ t ∧ t ≤ 62 ∧ cf_ft t m o = true ∧ C t = v) ∧ ∀ t, 1 ≤ t → t ≤ 62 → cf_ft t m o = true → v ≤ C t := by
  obtain ⟨h1, _, h3⟩ := cf_los C m o 62 none v (by decide) h
  refine ⟨?_, h3⟩
  rcases h1 with h1 | h1
  · exact nomatch h1
  · exact h1
theorem cf_Le (C : Nat → Nat) {m o t : Nat} (h1 : 1 ≤ t) (h2 : t ≤ 62) (hf : cf_ft t m o = true) : ∃ v, cf_L C m o = some v := by
  cases h : cf_L C m o with
  | some v => exact ⟨v, rfl⟩
  | none =>
    have := (cf_lon C m o 62 none (by decide) h).2 t h1 h2
    rw [hf] at this
    exact nomatch this
theorem cf_L0 (C : Nat → Nat) : ∃ v, cf_L C 0 0 = some v := cf_Le C (t := 1) (by decide) (by decide) (by decide)
theorem cf_f0 (t : Nat) : cf_ft t 0 0 = true := by simp [cf_ft]
theorem cf_L2 (C : Nat → Nat) {a b : Nat} (ha : a < 6) (hb : b < 6) (hn : a ≠ b) : ∃ v, cf_L C (2 ^ a) (2 ^ b) = some v := cf_Le C (t := 2 ^ a) (cf_pw a ha).2.1 (cf_pw a ha).2.2 (cf_ftx a ha b hb hn)
/-! ===== between, separatesAt ===== -/
def cf_E (g : Nat → Nat) (a b : Nat) : Int32 := cf_e (cf_L (cf_C g) (2 ^ a) (2 ^ b))
theorem cf_lcX {post : Int32 → Prop} {g : Nat → Nat} {a b : Nat} (hg : ∀ j, g j ≤ 31) (ha : a < 6) (hb : b < 6) (h : post (cf_E g a b)) : wpX_leastCost post (cf_A g) ((1 : Int32) <<< (nI a &&& 31)) ((1 : Int32) <<< (nI b &&& 31)) := by
  rw [cf_shl a ha, cf_shl b hb]
  exact cf_leastX hg (cf_pw a ha).1 (cf_pw b hb).1 h
theorem cf_btY {post : Int32 → Prop} {g : Nat → Nat} {a b : Nat} (hg : ∀ j, g j ≤ 31) (hy : cf_S g) (ha : a < 6) (hb : b < 6) (hn : a ≠ b) (h : post (cf_E g a b)) : wpY_between post (cf_A g) (nI a) (nI b) := by
  unfold wpY_between
  refine cf_pY1 ha hb hn (br_f cf_10 ?_)
  rw [cf_shl a ha, cf_shl b hb]
  exact cf_leastY hg hy (cf_pw a ha).1 (cf_pw b hb).1 h
def cf_se (g : Nat → Nat) (a b : Nat) (E : Int32) (s : Nat) : Bool := cf_ft s (2 ^ a) (2 ^ b) && decide (nI (cf_C g s) = E)
theorem cf_sepX {post : Int32 → Prop} {g : Nat → Nat} {a b s : Nat} {E : Int32} (hs : s < 64) (ha : a < 6) (hb : b < 6) (h1 : cf_se g a b E s = true → post 1) (h0 : cf_se g a b E s = false → post 0) : wpX_separatesAt post (cf_A g) (nI s) (nI a) (nI b) E := by
  unfold wpX_separatesAt
  rw [cf_shl a ha, cf_shl b hb]
  refine cf_fits hs (cf_pw a ha).1 (cf_pw b hb).1 (fun hf => br_f cf_10 (cf_costX hs ?_)) (fun hf => br_t rfl (h0 (by simp [cf_se, hf])))
  by_cases z : nI (cf_C g s) = E
  · exact br_t z (h1 (by simp [cf_se, hf, z]))
  · exact br_f z (h0 (by simp [cf_se, z]))
