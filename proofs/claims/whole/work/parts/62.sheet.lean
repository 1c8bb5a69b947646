/-! sheets -/
theorem isSheet6 (fu : Nat) (x : Int32) : fX6_isSheet fu x = some (tb ((0 : Int32) ≤ x ∧ x ≤ 3)) := by
  unfold fX6_isSheet
  rw [within_s, bnd_s, z_tb]
theorem isOne7 (fu : Nat) (x : Int32) : fX7_isOne fu x = some (tb ((0 : Int32) ≤ x ∧ x ≤ 3)) := by
  unfold fX7_isOne
  rw [in_k fu x 0 3 0 3 (by decide) (by decide), bnd_s, z_tb]
theorem lld_nI {ρ : Type} {f : Nat → Int64} {N k : Nat} {K : Int64 → Option ρ} (hk : k < N) (hN : N < 2 ^ 31) : g_lld f N (nI k) K = K (f k) := by
  unfold g_lld
  rw [in_nI hk hN, nI_clamp (by omega)]
theorem ix40 {k i : Nat} : (40 : Int32) * nI k + nI i = nI (40 * k + i) := by
  rw [show (40 : Int32) = nI 40 from rfl, pk_mul, nI_add]
/-- one sheet becomes another -/
theorem J5_set {s : SHS} {t t' : MS} (hJ : J5 s t) {k : Nat} (u : S1S) (hb : ∀ j, j < 4 → mgBitsOf t' j = if j = k then hgBits u else mgBitsOf t j) (hs : ∀ j, j < 4 → mgSizeOf t' j = if j = k then hgSize u else mgSizeOf t j) (hn : ∀ j, j < 4 → ∀ i, i < 40 → mgNumbers t' (40 * j + i) = if j = k then hgNumbers u i else mgNumbers t (40 * j + i)) (ub : hgBits u = 0 ∨ hgBits u = 8 ∨ hgBits u = 16 ∨ hgBits u = 64) (us : ∃ n, n ≤ 40 ∧ hgSize u = nI n) : J5 (sSet s k u) t' := by
  intro j hj
  obtain ⟨a, b, c, d, e⟩ := hJ j hj
  have e1 : sgBits (sSet s k u) j = if j = k then hgBits u else sgBits s j := rfl
  have e2 : sgSize (sSet s k u) j = if j = k then hgSize u else sgSize s j := rfl
  have e3 : sgNumbers (sSet s k u) j = if j = k then hgNumbers u else sgNumbers s j := rfl
  rw [e1, e2, e3, hb j hj, hs j hj]
  by_cases h : j = k
  · simp only [if_pos h]
    refine ⟨trivial, trivial, ub, us, fun i hi => ?_⟩
    rw [hn j hj i hi]
    simp only [if_pos h]
  · rw [if_neg h, if_neg h, if_neg h, if_neg h, if_neg h]
    refine ⟨a, b, c, d, fun i hi => ?_⟩
    rw [hn j hj i hi, if_neg h]
    exact e i hi
theorem fill_l (fu : Nat) : ∀ (n q fuel : Nat) (f : Nat → Int64), q + n = 40 → n < fuel → (∀ j, j < q → f j = 0) → ∃ f', g_lp (fun _ _ => none) (fJ7_fill_d0a16_b6B fu 40 0 (nI 40)) fuel f (nI q) = some f' ∧ ∀ j, j < 40 → f' j = 0 := by
  intro n
  induction n with
  | zero =>
    intro q fuel f hq hf h
    obtain ⟨j, rfl⟩ : ∃ j, fuel = j + 1 := ⟨fuel - 1, by omega⟩
    refine ⟨f, ?_, fun j hj => h j (by omega)⟩
    rw [g_lp_s]
    unfold fJ7_fill_d0a16_b6B
    rw [if_pos (nI_le (by omega) (by omega))]
  | succ n ih =>
    intro q fuel f hq hf h
    obtain ⟨j, rfl⟩ : ∃ j, fuel = j + 1 := ⟨fuel - 1, by omega⟩
    obtain ⟨f', e1, e2⟩ := ih (q + 1) j (vp_updL f q 0) (by omega) (by omega) (fun i hi => by
      by_cases e : i = q
      · subst e; exact pk_uLs
      · rw [pk_uLn e]; exact h i (by omega))
    refine ⟨f', ?_, e2⟩
    have st : ∀ K, fJ7_fill_d0a16_b6B fu 40 0 (nI 40) K f (nI q) = K (vp_updL f q 0) (nI (q + 1)) := by
      intro K
      unfold fJ7_fill_d0a16_b6B
      rw [if_neg (nI_ge (by omega) (by decide)), in_nI (by omega) (by decide), nm_s, nI_1, nI_clamp (by omega)]
    rw [g_lp_s, st]; exact e1
theorem fill_s {fu : Nat} (hF : 5000 ≤ fu) (f : Nat → Int64) : ∃ f', fJ7_fill_d0a16 fu 40 f 0 = some f' ∧ ∀ j, j < 40 → f' j = 0 := by
  obtain ⟨f', e1, e2⟩ := fill_l fu 40 0 fu f (by omega) (by omega) (fun j hj => absurd hj (by omega))
  exact ⟨f', e1, e2⟩
theorem sh7_l (fu : Nat) {k : Nat} (hk : k < 4) : ∀ (n q fuel : Nat) (t : MS), q + n = 40 → n < fuel → g_lp (fun _ _ => none) (fX7_sheet_b86B fu (nI k)) fuel t (nI q) = some (mgSizeOf t k, msNumbers t (fun j => if 40 * k + q ≤ j ∧ j < 40 * k + 40 then 0 else mgNumbers t j)) := by
  intro n
  induction n with
  | zero =>
    intro q fuel t hq hf
    obtain ⟨j, rfl⟩ : ∃ j, fuel = j + 1 := ⟨fuel - 1, by omega⟩
    rw [g_lp_s]
    unfold fX7_sheet_b86B
    rw [if_pos (show (40 : Int32) ≤ nI q from nI_le (a := 40) (by omega) (by omega)), ald4 hk]
    have e : (fun j => if 40 * k + q ≤ j ∧ j < 40 * k + 40 then 0 else mgNumbers t j) = mgNumbers t := by
      funext j
      rw [if_neg (by omega)]
    rw [e]
    rfl
  | succ n ih =>
    intro q fuel t hq hf
    obtain ⟨j, rfl⟩ : ∃ j, fuel = j + 1 := ⟨fuel - 1, by omega⟩
    have st : ∀ K, fX7_sheet_b86B fu (nI k) K t (nI q) = K (muNumbers t (40 * k + q) 0) (nI (q + 1)) := by
      intro K
      unfold fX7_sheet_b86B
      rw [if_neg (show ¬ (40 : Int32) ≤ nI q from nI_ge (b := 40) (by omega) (by decide)), ix40, in_nI (by omega) (by decide), nm_s, nI_1, nI_clamp (by omega)]
    rw [g_lp_s, st, ih (q + 1) j _ (by omega) (by omega)]
    have e : (fun j => if 40 * k + (q + 1) ≤ j ∧ j < 40 * k + 40 then 0 else mgNumbers (muNumbers t (40 * k + q) 0) j) = fun j => if 40 * k + q ≤ j ∧ j < 40 * k + 40 then 0 else mgNumbers t j := by
      funext j
      show (if _ then (0 : Int64) else vp_updL (mgNumbers t) (40 * k + q) 0 j) = _
      by_cases h1 : 40 * k + (q + 1) ≤ j ∧ j < 40 * k + 40
      · rw [if_pos h1, if_pos (by omega)]
      · rw [if_neg h1]
        by_cases h2 : j = 40 * k + q
        · subst h2; rw [pk_uLs, if_pos (by omega)]
        · rw [pk_uLn h2, if_neg (by omega)]
    rw [e]
    rfl
theorem areBits_s (fu : Nat) (b : Int32) : fX3_areBits fu b = some (tb (b = 0 ∨ b = 8 ∨ b = 16 ∨ b = 64)) := by
  unfold fX3_areBits tb
  by_cases h0 : b = 0
  · rw [if_pos h0, z_1, if_pos (Or.inl h0)]
  rw [if_neg h0]
  by_cases h1 : b = 8
  · rw [if_pos h1, z_1, if_pos (Or.inr (Or.inl h1))]
  rw [if_neg h1]
  by_cases h2 : b = 16
  · rw [if_pos h2, z_1, if_pos (Or.inr (Or.inr (Or.inl h2)))]
  rw [if_neg h2]
  by_cases h3 : b = 64
  · rw [if_pos h3, z_1, if_pos (Or.inr (Or.inr (Or.inr h3)))]
  rw [if_neg h3, z_0, if_neg (fun z => by rcases z with z | z | z | z; exact h0 z; exact h1 z; exact h2 z; exact h3 z)]
theorem pr_sheet {fu : Nat} (hF : 5000 ≤ fu) {g : Int32} {o : SS} {h k : PS} {p : TPS} {s : SHS} {t : MS} (hJ : JJ g o h k p s t) (a b c : Int32) : ∃ r o' s' t', fX6_sheet fu g o s a b c = some (r, o', s') ∧ fX7_sheet fu t a b c = some (r, t') ∧ JJ g o' h k p s' t' := by
  have h5 := hJ.2.2.2.2
  have fin : ∃ r o' s' t', fX6_sheet_b14 fu g o s = some (r, o', s') ∧ fX7_sheet_b29 fu t = some (r, t') ∧ JJ g o' h k p s' t' := by
    unfold fX6_sheet_b14 fX7_sheet_b29
    rw [f6_0, f7_0]
    exact ⟨_, _, _, _, rfl, rfl, JJ_f hJ 0 (by decide)⟩
  unfold fX6_sheet fX7_sheet
  rw [isSheet6, isOne7, bnd_s, bnd_s, tb_if, tb_if]
  by_cases ha : (0 : Int32) ≤ a ∧ a ≤ 3
  · rw [if_pos ha, if_pos ha, areBits_s, bnd_s, tb_if]
    obtain ⟨f, hf, rfl⟩ := rngL (n := 3) ha.1 ha.2 (by decide)
    by_cases hb : b = 0 ∨ b = 8 ∨ b = 16 ∨ b = 64
    · have e7 : (if b = (0 : Int32) then (fX7_sheet_b36 fu t (nI f) b c) else (if b = (8 : Int32) then (fX7_sheet_b36 fu t (nI f) b c) else (if b = (16 : Int32) then (fX7_sheet_b36 fu t (nI f) b c) else (if b = (64 : Int32) then (fX7_sheet_b36 fu t (nI f) b c) else (fX7_sheet_b29 fu t))))) = fX7_sheet_b36 fu t (nI f) b c := by
        rcases hb with rfl | rfl | rfl | rfl
        · rw [if_pos rfl]
        · rw [if_neg (by decide), if_pos rfl]
        · rw [if_neg (by decide), if_neg (by decide), if_pos rfl]
        · rw [if_neg (by decide), if_neg (by decide), if_neg (by decide), if_pos rfl]
      rw [if_pos hb, e7]
      unfold fX7_sheet_b36 fX7_sheet_b82
      by_cases hc : (0 : Int32) ≤ c
      · rw [if_pos hc, if_pos hc]
        by_cases hc2 : c ≤ 40
        · obtain ⟨z, hz, rfl⟩ := rngL (n := 40) hc hc2 (by decide)
          rw [if_pos hc2, if_pos hc2, in4 (by omega), nm_s, in4 (by omega), in4 (by omega), in4 (by omega), nI_clamp (by omega)]
          have cl : ∃ f', (∀ j, j < 40 → f' j = (0 : Int64)) ∧ fX3_clear fu (sGet s f) b (nI z) = some (b, (if b = 0 then 0 else nI z), f') := by
            obtain ⟨f', e1, e2⟩ := fill_s hF (sgNumbers s f)
            refine ⟨f', e2, ?_⟩
            unfold fX3_clear fX3_clear_b15
            have e1' : ∀ y, fJ7_fill_d0a16 fu 40 (hgNumbers (hsSize (hsBits (sGet s f) b) y)) 0 = some f' := fun _ => e1
            by_cases hb0 : b = 0
            · rw [if_pos hb0, if_pos hb0, e1', bnd_s]; rfl
            · rw [if_neg hb0, if_neg hb0, e1', bnd_s]; rfl
          obtain ⟨f', e2, e1⟩ := cl
          have e3 : ∀ y, fX7_sheet_b86 fu (nI f) (muSizeOf (muBitsOf t f b) f y) 0 = some (y, msNumbers (muSizeOf (muBitsOf t f b) f y) (fun j => if 40 * f + 0 ≤ j ∧ j < 40 * f + 40 then 0 else mgNumbers t j)) := by
            intro y
            refine (sh7_l fu (k := f) (by omega) 40 0 fu (muSizeOf (muBitsOf t f b) f y) (by omega) (by omega)).trans ?_
            show some (upd (mgSizeOf t) f y f, _) = _
            rw [pk_us]
            rfl
          have e4 : (if b = (0 : Int32) then fX7_sheet_b86 fu (nI f) (muSizeOf (muBitsOf t f b) f 0) 0 else fX7_sheet_b86 fu (nI f) (muSizeOf (muBitsOf t f b) f (nI z)) 0) = some ((if b = 0 then 0 else nI z), msNumbers (muSizeOf (muBitsOf t f b) f (if b = 0 then 0 else nI z)) (fun j => if 40 * f + 0 ≤ j ∧ j < 40 * f + 40 then 0 else mgNumbers t j)) := by
            by_cases hb0 : b = 0
            · rw [if_pos hb0, if_pos hb0, e3]
            · rw [if_neg hb0, if_neg hb0, e3]
          rw [e1, bnd_s, e4, in4 (by omega), nm_s]
          have e5 : sgSize (sSet s f (b, (if b = 0 then 0 else nI z), f')) f = (if b = 0 then 0 else nI z) := by
            show upd (sgSize s) f _ f = _
            rw [pk_us]
            rfl
          rw [e5]
          refine ⟨_, _, _, _, rfl, rfl, hJ.1, hJ.2.1, hJ.2.2.1, hJ.2.2.2.1, J5_set h5 _ (fun j hj => rfl) (fun j hj => rfl) (fun j hj i hi => ?_) hb ?_⟩
          · show (if 40 * f + 0 ≤ 40 * j + i ∧ 40 * j + i < 40 * f + 40 then (0 : Int64) else mgNumbers t (40 * j + i)) = _
            by_cases hjf : j = f
            · subst hjf
              rw [if_pos (by omega), if_pos rfl]
              exact (e2 i hi).symm
            · rw [if_neg (by omega), if_neg hjf]
          · show ∃ n, n ≤ 40 ∧ (if b = 0 then 0 else nI z) = nI n
            by_cases hb0 : b = 0
            · rw [if_pos hb0]; exact ⟨0, by omega, rfl⟩
            · rw [if_neg hb0]; exact ⟨z, hz, rfl⟩
        · rw [if_neg hc2, if_neg hc2, f6_0, f7_0]
          exact ⟨_, _, _, _, rfl, rfl, JJ_f hJ 0 (by decide)⟩
      · rw [if_neg hc, if_neg hc, f6_6, f7_6]
        exact ⟨_, _, _, _, rfl, rfl, JJ_f hJ 6 (by decide)⟩
    · rw [if_neg hb, if_neg (fun z => hb (Or.inl z)), if_neg (fun z => hb (Or.inr (Or.inl z))), if_neg (fun z => hb (Or.inr (Or.inr (Or.inl z)))), if_neg (fun z => hb (Or.inr (Or.inr (Or.inr z))))]
      exact fin
  · rw [if_neg ha, if_neg ha]; exact fin
/-! a number is written -/
theorem isMis (fu : Nat) (u : S1S) : fX3_isMissing fu u = some (tb (hgBits u = 0)) := by
  unfold fX3_isMissing tb
  by_cases h : hgBits u = 0
  · rw [if_pos h, if_pos h, z_1]
  · rw [if_neg h, if_neg h, z_0]
theorem wrong_n (fu : Nat) (t : MS) {a : Int32} (ha : ¬ ((0 : Int32) ≤ a ∧ a ≤ 3)) : fX7_wrongSheet fu t a = some (-1000000001) := by
  unfold fX7_wrongSheet
  rw [isOne7, bnd_s, tb_if, if_neg ha]
theorem wrong_y (fu : Nat) (t : MS) {f : Nat} (hf : f < 4) : fX7_wrongSheet fu t (nI f) = some (if mgBitsOf t f = 0 then -1000000006 else 0) := by
  unfold fX7_wrongSheet
  rw [isOne7, bnd_s, tb_if, if_pos ⟨nI_pos' (by omega), nI_le (b := 3) (by omega) (by decide)⟩, ald4 hf]
  split <;> rfl
def narN (b : Int32) (v : Int64) : Int64 := if b = 8 then Int32.toInt64 (Int8.toInt32 (Int32.toInt8 (Int64.toInt32 v))) else if b = 16 then Int32.toInt64 (Int16.toInt32 (Int32.toInt16 (Int64.toInt32 v))) else v
theorem nar_s (fu : Nat) (b : Int32) (v : Int64) : fX7_narrowed fu b v = some (narN b v) := by
  unfold fX7_narrowed narN
  split
  · rfl
  · split <;> rfl
theorem put_s (fu : Nat) (u : S1S) {i : Nat} (hi : i < 40) (v : Int64) : fX3_put fu u (nI i) v = some (huNumbers u i (narN (hgBits u) v)) := by
  unfold fX3_put narN
  rw [in_nI hi (by decide), in_nI hi (by decide), in_nI hi (by decide), nI_clamp (by omega)]
  split
  · rfl
  · split <;> rfl
theorem J5_put {s : SHS} {t : MS} (hJ : J5 s t) {k i : Nat} (hk : k < 4) (hi : i < 40) (v : Int64) : J5 (sSet s k (huNumbers (sGet s k) i v)) (muNumbers t (40 * k + i) v) := by
  obtain ⟨a, b, c, d, e⟩ := hJ k hk
  refine J5_set hJ _ (fun j hj => ?_) (fun j hj => ?_) (fun j hj i' hi' => ?_) c d
  · show mgBitsOf t j = if j = k then sgBits s k else mgBitsOf t j
    split
    · rename_i z; subst z; exact a.symm
    · rfl
  · show mgSizeOf t j = if j = k then sgSize s k else mgSizeOf t j
    split
    · rename_i z; subst z; exact b.symm
    · rfl
  · show vp_updL (mgNumbers t) (40 * k + i) v (40 * j + i') = if j = k then vp_updL (sgNumbers s k) i v i' else mgNumbers t (40 * j + i')
    by_cases z : j = k
    · subst z
      rw [if_pos rfl]
      by_cases z2 : i' = i
      · subst z2; rw [pk_uLs, pk_uLs]
      · rw [pk_uLn (by omega), pk_uLn z2]; exact (e i' hi').symm
    · rw [if_neg z, pk_uLn (by omega)]
theorem pr_write {fu : Nat} {g : Int32} {o : SS} {h k : PS} {p : TPS} {s : SHS} {t : MS} (hJ : JJ g o h k p s t) (a b : Int32) (v : Int64) : ∃ r o' s' t', fX6_write fu g o s a b v = some (r, o', s') ∧ fX7_write fu t a b v = some (r, t') ∧ JJ g o' h k p s' t' := by
  have h5 := hJ.2.2.2.2
  unfold fX6_write fX7_write
  rw [isSheet6, bnd_s, tb_if]
  by_cases ha : (0 : Int32) ≤ a ∧ a ≤ 3
  · obtain ⟨f, hf, rfl⟩ := rngL (n := 3) ha.1 ha.2 (by decide)
    have hf4 : f < 4 := by omega
    obtain ⟨q1, q2, q3, ⟨n, hn, q4⟩, q5⟩ := h5 f hf4
    rw [if_pos ha, in4 hf4, nm_s, nI_clamp (by omega), isMis, bnd_s, tb_if, wrong_y fu t hf4, bnd_s]
    by_cases hm : mgBitsOf t f = 0
    · have hm6 : hgBits (sGet s f) = 0 := by show sgBits s f = 0; rw [q1]; exact hm
      rw [if_pos hm6, if_pos hm, if_neg (by decide), f6_5, f7_5]
      exact ⟨_, _, _, _, rfl, rfl, JJ_f hJ 5 (by decide)⟩
    · have hm6 : ¬ hgBits (sGet s f) = 0 := by show ¬ sgBits s f = 0; rw [q1]; exact hm
      rw [if_neg hm6, if_neg hm, if_pos rfl, within_s, bnd_s, tb_if, ald4 hf4, in_k fu b 0 _ 0 (mgSizeOf t f - 1) (by decide) rfl, bnd_s, tb_if, q2]
      by_cases hb : (0 : Int32) ≤ b ∧ b ≤ mgSizeOf t f - 1
      · obtain ⟨i, hi, rfl⟩ : ∃ i, i < n ∧ b = nI i := by
          have h2 := hb.2
          rw [← q2, q4] at h2
          exact rng hb.1 ((le_pred (by omega)).mp h2) (by omega)
        rw [if_pos hb, if_pos hb, lld_nI (by omega) (by decide), put_s fu _ (by omega), bnd_s, ix40, lld_nI (by omega) (by decide), ald4 hf4, nar_s, bnd_s, in_nI (by omega) (by decide), nI_clamp (by omega), q5 i (by omega)]
        have e : hgBits (sGet s f) = mgBitsOf t f := q1
        rw [e]
        exact ⟨_, _, _, _, rfl, rfl, hJ.1, hJ.2.1, hJ.2.2.1, hJ.2.2.2.1, J5_put h5 hf4 (by omega) _⟩
      · rw [if_neg hb, if_neg hb, f6_0, f7_0]
        exact ⟨_, _, _, _, rfl, rfl, JJ_f hJ 0 (by decide)⟩
  · rw [if_neg ha, wrong_n fu t ha, bnd_s, if_neg (by decide), f6_0, f7_0]
    exact ⟨_, _, _, _, rfl, rfl, JJ_f hJ 0 (by decide)⟩
