/-! ===== leastSide: the first of the cheapest odd sides ===== -/
def cf_first (C : Nat → Nat) (r : Nat) : Prop := r % 2 = 1 ∧ r ≤ 62 ∧ (∀ q, q % 2 = 1 → q ≤ 62 → C r ≤ C q) ∧ (∀ q, q % 2 = 1 → q < r → C r < C q)
theorem cf_lsX {post : Int32 → Prop} {g : Nat → Nat} (hg : ∀ j, g j ≤ 31) (h : ∀ r, cf_first (cf_C g) r → post (nI r)) : ∀ k t r, t + 2 * k = 63 → r % 2 = 1 → r < t → (∀ q, q % 2 = 1 → q < t → cf_C g r ≤ cf_C g q) → (∀ q, q % 2 = 1 → q < r → cf_C g r < cf_C g q) → ∀ n, k < n → wX_leastSide_10 post (cf_A g) n (nI r) (nI (cf_C g r)) (nI t) := by
  intro k
  induction k with
  | zero =>
    intro t r ht hr hl h1 h2 n hn
    obtain ⟨n, rfl⟩ : ∃ m, n = m + 1 := ⟨n - 1, by omega⟩
    exact br_t (nI_le (a := 63) (by omega) (by omega)) (h r ⟨hr, by omega, fun q hq hm => h1 q hq (by omega), h2⟩)
  | succ k ih =>
    intro t r ht hr hl h1 h2 n hn
    obtain ⟨n, rfl⟩ : ∃ m, n = m + 1 := ⟨n - 1, by omega⟩
    have hc := cf_Cb hg t
    have hd := cf_Cb hg r
    have e : nI t + 2 = nI (t + 2) := nI_add t 2
    refine br_f (nI_ge (b := 63) (by omega) (by decide)) (cf_costX (by omega) (pk_le (cf_C g r) (cf_C g t) (fun hl2 => nm_r e (ih (t + 2) r (by omega) hr (by omega) (fun q hq hm => ?_) h2 n (by omega))) (fun hl2 => nm_r e (ih (t + 2) t (by omega) (by omega) (by omega) (fun q hq hm => ?_) (fun q hq hm => ?_) n (by omega)))))
    · by_cases z : q = t
      · rw [z]; exact hl2
      · exact h1 q hq (by omega)
    · by_cases z : q = t
      · rw [z]; exact Nat.le_refl _
      · have := h1 q hq (by omega); omega
    · have := h1 q hq hm; omega
theorem cf_lsY {post : Int32 → Prop} {g : Nat → Nat} {v r : Nat} (hg : ∀ j, g j ≤ 31) (hy : cf_S g) (hr : r % 2 = 1) (hr2 : r ≤ 62) (hv : cf_C g r = v) (hq : ∀ q, q % 2 = 1 → q < r → cf_C g r < cf_C g q) (h : post (nI r)) : ∀ k s, s + k = r → ∀ n, k < n → wY_leastSide_9 post (nI v) (cf_A g) n (nI s) := by
  intro k
  induction k with
  | zero =>
    intro s hs n hn
    obtain ⟨n, rfl⟩ : ∃ m, n = m + 1 := ⟨n - 1, by omega⟩
    have e : s = r := hs
    subst e
    exact br_f (nI_nlt (a := 62) (by omega) (by decide)) (br_t ((cf_odd s (by omega)).mpr hr) (cf_costY hy (by omega) (br_t (by rw [hv]) h)))
  | succ k ih =>
    intro s hs n hn
    obtain ⟨n, rfl⟩ : ∃ m, n = m + 1 := ⟨n - 1, by omega⟩
    refine br_f (nI_nlt (a := 62) (by omega) (by decide)) ?_
    by_cases ho : s % 2 = 1
    · have hc := cf_Cb hg s
      have hd := cf_Cb hg r
      have hl := hq s ho (by omega)
      refine br_t ((cf_odd s (by omega)).mpr ho) (cf_costY hy (by omega) (br_f (fun z => ?_) (nm_r (nI_1 s) (ih (s + 1) (by omega) n (by omega)))))
      rw [nI_eq (by omega) (by omega)] at z
      omega
    · exact br_f (fun z => ho ((cf_odd s (by omega)).mp z)) (nm_r (nI_1 s) (ih (s + 1) (by omega) n (by omega)))
theorem cf_fv {g : Nat → Nat} {r v : Nat} (h : cf_first (cf_C g) r) (hv : cf_L (cf_C g) 0 0 = some v) : cf_C g r = v := by
  obtain ⟨h1, h2, h3, h4⟩ := h
  obtain ⟨⟨t, t1, t2, _, t4⟩, m⟩ := cf_Ls hv
  have a := m r (by omega) h2 (cf_f0 r)
  by_cases z : t % 2 = 1
  · have := h3 t z t2; omega
  · have := h3 (63 - t) (by omega) (by omega)
    rw [cf_Cc g (by omega)] at this
    omega
theorem i_vc_leastSide {k : Nat} {u : SX} {v : SY} (I : i_Rel k u v) (hk : k + 5 ≤ 2560) : wpX_leastSide (fun r => wpY_leastSide (fun r' => r' = r ∧ i_Rel (k + 5) u v) v) u := by
  obtain ⟨g, rfl, rfl, hg, hs⟩ := I
  have R : i_Rel (k + 5) (cf_A g) (cf_A g) := cf_rel hg hs
  unfold wpX_leastSide wpY_leastSide
  refine cf_costX (s := 1) (by decide) ⟨31, cf_lsX (cf_31 hg) (fun r hr => ?_) 30 3 1 rfl rfl (by decide) (fun q hq hm => ?_) (fun q hq hm => by omega) 31 (by decide)⟩
  · obtain ⟨w, hw⟩ := cf_L0 (cf_C g)
    refine cf_leastY (m := 0) (o := 0) (cf_31 hg) hs (by decide) (by decide) ?_
    rw [hw]
    have hv := cf_fv hr hw
    obtain ⟨r1, r2, _, r4⟩ := hr
    exact ⟨r, cf_lsY (cf_31 hg) hs r1 r2 hv r4 ⟨rfl, R⟩ (r - 1) 1 (by omega) r (by omega)⟩
  · have e : q = 1 := by omega
    rw [e]; exact Nat.le_refl _
/-! ===== loss ===== -/
theorem cf_loX {post : Int32 → Prop} {g D : Nat → Nat} {a b d v : Nat} (hg : ∀ j, g j ≤ 31) (ha : a < 6) (hb : b < 6) (hD : ∀ s, D s + cf_t (cf_sp s a b) d = cf_C g s) (hv : v < 2 ^ 30) (h : ∀ w, w ≤ v → (∀ t, 1 ≤ t → t ≤ 62 → w ≤ D t) → (w = v ∨ ∃ t, 1 ≤ t ∧ t ≤ 62 ∧ w = D t) → post (nI v - nI w)) : ∀ k s w, s + k = 63 → 1 ≤ s → w ≤ v → (∀ t, 1 ≤ t → t < s → w ≤ D t) → (w = v ∨ ∃ t, 1 ≤ t ∧ t ≤ 62 ∧ w = D t) → ∀ n, k < n → wX_loss_36 post (nI a) (nI b) (nI v) (nI d) (cf_A g) n (nI w) (nI s) := by
  intro k
  induction k with
  | zero =>
    intro s w hs h1 h2 h3 h4 n hn
    obtain ⟨n, rfl⟩ : ∃ m, n = m + 1 := ⟨n - 1, by omega⟩
    exact br_t (nI_le (a := 63) (by omega) (by omega)) (h w h2 (fun t t1 t2 => h3 t t1 (by omega)) h4)
  | succ k ih =>
    intro s w hs h1 h2 h3 h4 n hn
    obtain ⟨n, rfl⟩ : ∃ m, n = m + 1 := ⟨n - 1, by omega⟩
    have hc := cf_Cb hg s
    have hd := hD s
    have hD30 : D s < 2 ^ 30 := by omega
    have G : wX_loss_68 post (wX_loss_36 post (nI a) (nI b) (nI v) (nI d) (cf_A g) n) (nI a) (nI b) (nI v) (nI d) (nI w) (nI s) (nI (D s)) (cf_A g) := by
      unfold wX_loss_68
      refine pk_le w (D s) (fun hl => nm_r (nI_1 s) (ih (s + 1) w (by omega) (by omega) h2 (fun t t1 t2 => ?_) h4 n (by omega))) (fun hl => nm_r (nI_1 s) (ih (s + 1) (D s) (by omega) (by omega) (by omega) (fun t t1 t2 => ?_) (Or.inr ⟨s, h1, by omega, rfl⟩) n (by omega)))
      · by_cases z : t = s
        · rw [z]; exact hl
        · exact h3 t t1 (by omega)
      · by_cases z : t = s
        · rw [z]; exact Nat.le_refl _
        · have := h3 t t1 (by omega); omega
    refine br_f (nI_ge (b := 63) (by omega) (by decide)) (cf_costX (by omega) (cf_splits (by omega) ha hb (fun hf => ?_) (fun hf => ?_)))
    · rw [hf] at hd
      have hd' : D s + d = cf_C g s := hd
      refine br_f cf_10 (nm_r (e' := nI (D s)) ?_ G)
      rw [pk_sub (by omega)]
      exact congrArg nI (by omega)
    · rw [hf] at hd
      have hd' : D s + 0 = cf_C g s := hd
      refine br_t rfl ?_
      rw [← hd', Nat.add_zero]
      exact G
theorem cf_0t (c : Bool) : cf_t c 0 = 0 := by cases c <;> rfl
theorem i_vc_loss {k : Nat} {u : SX} {v : SY} (I : i_Rel k u v) (hk : k + 5 ≤ 2560) (v1 : Int32) (v2 : Int32) : wpX_loss (fun r => wpY_loss (fun r' v' => r' = r ∧ i_Rel (k + 5) u v') v v1 v2) u v1 v2 := by
  obtain ⟨g, rfl, rfl, hg, hs⟩ := I
  have R : i_Rel (k + 5) (cf_A g) (cf_A g) := cf_rel hg hs
  unfold wpX_loss wpY_loss
  rcases cf_dec v1 v2 with hn | ⟨a, b, ha, hb, hn, rfl, rfl⟩
  · exact cf_pX0 hn (br_t rfl (cf_pY0 hn (br_t rfl ⟨rfl, R⟩)))
  · obtain ⟨w, hw⟩ := cf_L0 (cf_C g)
    obtain ⟨⟨t0, p1, p2, _, p4⟩, pm⟩ := cf_Ls hw
    obtain ⟨w', hw'⟩ := cf_L0 (cf_C (cf_put g a b 0))
    obtain ⟨⟨t1, q1, q2, _, q4⟩, qm⟩ := cf_Ls hw'
    have hD : ∀ s, cf_C (cf_put g a b 0) s + cf_t (cf_sp s a b) (g (6 * a + b)) = cf_C g s := by
      intro s
      have := cf_ch hs a b 0 s ha hb hn
      rw [cf_0t] at this
      exact this
    have hb0 : ∀ j, cf_put g a b 0 j ≤ 31 := cf_31 (cf_putb hg (Nat.zero_le _) a b)
    have hs0 := cf_puts hs a b 0 ha hb
    have hwb : w < 2 ^ 30 := by rw [← p4]; exact cf_Cb (cf_31 hg) t0
    refine cf_pX1 ha hb hn (br_f cf_10 (cf_leastX (m := 0) (o := 0) (cf_31 hg) (by decide) (by decide) ⟨pk_in (6 * a + b) 36 (by omega) (cf_ix a b), nm_r (e' := nI (g (6 * a + b))) (by rw [cf_ix, nI_clamp (by omega)]; rfl) ?_⟩))
    rw [hw]
    refine ⟨63, cf_loX (D := cf_C (cf_put g a b 0)) (cf_31 hg) ha hb hD hwb (fun x x1 x2 x3 => ?_) 62 1 w rfl (by decide) (Nat.le_refl _) (fun t t1 t2 => by omega) (Or.inl rfl) 63 (by decide)⟩
    have hx : x = w' := by
      have y1 := x2 t1 q1 q2
      have y2 : w' ≤ x := by
        rcases x3 with x3 | ⟨t, a1, a2, a3⟩
        · have := qm t0 p1 p2 (cf_f0 t0)
          have := hD t0
          omega
        · rw [a3]; exact qm t a1 a2 (cf_f0 t)
      omega
    refine cf_pY1 ha hb hn (br_f cf_10 ?_)
    unfold wpY_least
    refine cf_leastY (m := 0) (o := 0) (cf_31 hg) hs (by decide) (by decide) ⟨pk_in (6 * a + b) 36 (by omega) (cf_iy a b), nm_r (e' := nI (g (6 * a + b))) (by rw [cf_iy, nI_clamp (by omega)]; rfl) ?_⟩
    refine cf_putY (c := 0) ha hb ?_
    refine cf_leastY (m := 0) (o := 0) hb0 hs0 (by decide) (by decide) (cf_putY ha hb ?_)
    rw [hw, hw', cf_back hs a b 0 ha hb, hx]
    exact ⟨rfl, R⟩
/-! ===== tight ===== -/
theorem cf_tiX {post : Int32 → Prop} {g : Nat → Nat} {a b x y : Nat} {E : Int32} (ha : a < 6) (hb : b < 6) (hx : x < 6) (hy : y < 6) : ∀ k s, s + k = 63 → ((∀ t, s ≤ t → t ≤ 62 → cf_se g a b E t = true → cf_sp t x y = true) → post 1) → ((∃ t, s ≤ t ∧ t ≤ 62 ∧ cf_se g a b E t = true ∧ cf_sp t x y = false) → post 0) → ∀ n, k < n → wX_tight_34 post (nI a) (nI b) (nI x) (nI y) E (cf_A g) n (nI s) := by
  intro k
  induction k with
  | zero =>
    intro s hs h1 h0 n hn
    obtain ⟨n, rfl⟩ : ∃ m, n = m + 1 := ⟨n - 1, by omega⟩
    exact br_t (nI_le (a := 63) (by omega) (by omega)) (h1 (fun t t1 t2 => by omega))
  | succ k ih =>
    intro s hs h1 h0 n hn
    obtain ⟨n, rfl⟩ : ∃ m, n = m + 1 := ⟨n - 1, by omega⟩
    have G : (cf_se g a b E s = true → cf_sp s x y = true) → wX_tight_34 post (nI a) (nI b) (nI x) (nI y) E (cf_A g) n (nI (s + 1)) := by
      intro hz
      refine ih (s + 1) (by omega) (fun hh => h1 (fun t t1 t2 t3 => ?_)) (fun hh => h0 ?_) n (by omega)
      · by_cases z : t = s
        · rw [z] at t3 ⊢; exact hz t3
        · exact hh t (by omega) t2 t3
      · obtain ⟨t, t1, t2, t3⟩ := hh
        exact ⟨t, by omega, t2, t3⟩
    refine br_f (nI_ge (b := 63) (by omega) (by decide)) (cf_sepX (by omega) ha hb (fun hc => br_f cf_10 (cf_splits (by omega) hx hy (fun hp => br_f cf_10 (nm_r (nI_1 s) (G (fun _ => hp)))) (fun hp => br_t rfl (h0 ⟨s, Nat.le_refl _, by omega, hc, hp⟩)))) (fun hc => br_t rfl (nm_r (nI_1 s) (G (fun z => ?_)))))
    rw [hc] at z
    exact nomatch z
theorem cf_1t {c : Bool} (h : c = true) : cf_t c 1 = 1 := by rw [h]; rfl
theorem cf_ta {c : Bool} (h : c = true) (v : Nat) : cf_t c v = v := by rw [h]; rfl
theorem cf_tf {c : Bool} (h : c = false) (v : Nat) : cf_t c v = 0 := by rw [h]; rfl
theorem cf_tiM {g : Nat → Nat} {a b x y v w : Nat} (hg : ∀ j, g j ≤ 30) (hs : cf_S g) (hx : x < 6) (hy : y < 6) (hn : x ≠ y) (hv : cf_L (cf_C g) (2 ^ a) (2 ^ b) = some v) (hw : cf_L (cf_C (cf_put g x y (g (6 * x + y) + 1))) (2 ^ a) (2 ^ b) = some w) : ((∀ t, 1 ≤ t → t ≤ 62 → cf_se g a b (nI v) t = true → cf_sp t x y = true) → v < w) ∧ ((∃ t, 1 ≤ t ∧ t ≤ 62 ∧ cf_se g a b (nI v) t = true ∧ cf_sp t x y = false) → w ≤ v) := by
  obtain ⟨⟨t0, p1, p2, p3, p4⟩, pm⟩ := cf_Ls hv
  obtain ⟨⟨t1, q1, q2, q3, q4⟩, qm⟩ := cf_Ls hw
  have hvb : v < 2 ^ 30 := by rw [← p4]; exact cf_Cb (cf_31 hg) t0
  constructor
  · intro h
    have e := cf_ch hs x y (g (6 * x + y) + 1) t1 hx hy hn
    have m1 := pm t1 q1 q2 q3
    cases hp : cf_sp t1 x y with
    | true =>
      rw [cf_ta hp, cf_ta hp] at e
      omega
    | false =>
      rw [cf_tf hp, cf_tf hp] at e
      by_cases z : cf_C g t1 = v
      · have hse : cf_se g a b (nI v) t1 = true := by simp [cf_se, q3, z]
        have := h t1 q1 q2 hse
        rw [hp] at this
        exact nomatch this
      · omega
  · intro ⟨t, a1, a2, a3, a4⟩
    have e := cf_ch hs x y (g (6 * x + y) + 1) t hx hy hn
    rw [cf_tf a4, cf_tf a4] at e
    unfold cf_se at a3
    rw [Bool.and_eq_true, decide_eq_true_eq] at a3
    obtain ⟨b1, b2⟩ := a3
    have hc := cf_Cb (cf_31 hg) t
    rw [nI_eq (by omega) (by omega)] at b2
    have := qm t a1 a2 b1
    omega
theorem i_vc_tight {k : Nat} {u : SX} {v : SY} (I : i_Rel k u v) (hk : k + 5 ≤ 2560) (v1 : Int32) (v2 : Int32) (v3 : Int32) (v4 : Int32) : wpX_tight (fun r => wpY_tight (fun r' v' => r' = r ∧ i_Rel (k + 5) u v') v v1 v2 v3 v4) u v1 v2 v3 v4 := by
  obtain ⟨g, rfl, rfl, hg, hs⟩ := I
  have R : i_Rel (k + 5) (cf_A g) (cf_A g) := cf_rel hg hs
  unfold wpX_tight wpY_tight
  rcases cf_dec v1 v2 with hn | ⟨a, b, ha, hb, hn, rfl, rfl⟩
  · exact cf_pX0 hn (br_t rfl (cf_pY0 hn (br_t rfl ⟨rfl, R⟩)))
  rcases cf_dec v3 v4 with hm | ⟨x, y, hx, hy, hm, rfl, rfl⟩
  · exact cf_pX1 ha hb hn (br_f cf_10 (cf_pX0 hm (br_t rfl (cf_pY1 ha hb hn (br_f cf_10 (cf_pY0 hm (br_t rfl ⟨rfl, R⟩)))))))
  obtain ⟨v, hv⟩ := cf_L2 (cf_C g) ha hb hn
  obtain ⟨w, hw⟩ := cf_L2 (cf_C (cf_put g x y (g (6 * x + y) + 1))) ha hb hn
  obtain ⟨M1, M0⟩ := cf_tiM hg hs hx hy hm hv hw
  have hEv : cf_E g a b = nI v := by unfold cf_E; rw [hv]; rfl
  have hEw : cf_E (cf_put g x y (g (6 * x + y) + 1)) a b = nI w := by unfold cf_E; rw [hw]; rfl
  have hb1 : ∀ j, cf_put g x y (g (6 * x + y) + 1) j ≤ 31 := cf_putb (cf_31 hg) (Nat.succ_le_succ (hg _)) x y
  have hs1 := cf_puts hs x y (g (6 * x + y) + 1) hx hy
  have hvb : v < 2 ^ 30 := by
    obtain ⟨⟨t, _, _, _, e⟩, _⟩ := cf_Ls hv
    rw [← e]; exact cf_Cb (cf_31 hg) t
  have hwb : w < 2 ^ 30 := by
    obtain ⟨⟨t, _, _, _, e⟩, _⟩ := cf_Ls hw
    rw [← e]; exact cf_Cb hb1 t
  have Y : ∀ r : Int32, (w ≤ v → (0 : Int32) = r) → (v < w → (1 : Int32) = r) → wpY_tight (fun r' v' => r' = r ∧ i_Rel (k + 5) (cf_A g) v') (cf_A g) (nI a) (nI b) (nI x) (nI y) := by
    intro r r0 r1
    unfold wpY_tight
    refine cf_pY1 ha hb hn (br_f cf_10 (cf_pY1 hx hy hm (br_f cf_10 (cf_btY (cf_31 hg) hs ha hb hn ⟨pk_in (6 * x + y) 36 (by omega) (cf_iy x y), nm_r (e' := nI (g (6 * x + y))) (by rw [cf_iy, nI_clamp (by omega)]; rfl) ?_⟩))))
    rw [nI_1]
    refine cf_putY hx hy (cf_btY hb1 hs1 ha hb hn (cf_putY hx hy ?_))
    rw [hEv, hEw, cf_back hs x y _ hx hy]
    exact pk_le w v (fun hl => ⟨r0 hl, R⟩) (fun hl => ⟨r1 hl, R⟩)
  refine cf_pX1 ha hb hn (br_f cf_10 (cf_pX1 hx hy hm (br_f cf_10 (cf_lcX (cf_31 hg) ha hb ?_))))
  rw [hEv]
  refine ⟨63, cf_tiX ha hb hx hy 62 1 rfl (fun hh => ?_) (fun hh => ?_) 63 (by decide)⟩
  · have := M1 hh
    exact Y 1 (fun z => by omega) (fun _ => rfl)
  · have := M0 hh
    exact Y 0 (fun _ => rfl) (fun z => by omega)
