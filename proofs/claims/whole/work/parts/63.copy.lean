/-! copying -/
theorem sub_I {z i : Nat} (hz : z ≤ 40) (hi : i < 2 ^ 31) : (nI z - nI i).toInt = (z : Int) - i := by
  rw [Int32.toInt_sub, nI_toInt (by omega), nI_toInt hi]
  exact Int.bmod_eq_of_le (by omega) (by omega)
def spn (z : Nat) (x n : Int32) : Prop := ∃ i m, x = nI i ∧ n = nI m ∧ i + m ≤ z
theorem span_s (fu : Nat) (u : S1S) {z : Nat} (hz : z ≤ 40) (hu : hgSize u = nI z) (x n : Int32) : (spn z x n ∧ fX3_hasSpan fu u x n = some 1) ∨ (¬ spn z x n ∧ fX3_hasSpan fu u x n = some 0) := by
  unfold fX3_hasSpan
  rw [hu]
  by_cases h1 : x < 0
  · rw [if_pos h1, z_0]
    exact Or.inr ⟨fun ⟨i, m, a, b, c⟩ => by subst a; exact nI_pos (by omega) h1, rfl⟩
  rw [if_neg h1]
  by_cases h2 : n < 0
  · rw [if_pos h2, z_0]
    exact Or.inr ⟨fun ⟨i, m, a, b, c⟩ => by subst b; exact nI_pos (by omega) h2, rfl⟩
  rw [if_neg h2]
  obtain ⟨i, hi, rfl⟩ := nI_of h1
  obtain ⟨m, hm, rfl⟩ := nI_of h2
  by_cases h3 : z < m
  · rw [if_pos ((nI_ltI (by omega) hm).mpr h3), z_0]
    refine Or.inr ⟨fun ⟨i', m', a, b, c⟩ => ?_, rfl⟩
    have := (nI_eq hm (by omega)).mp b
    omega
  rw [if_neg (fun q => h3 ((nI_ltI (by omega) hm).mp q)), pk_sub (by omega)]
  by_cases h4 : z - m < i
  · rw [if_pos ((nI_ltI (by omega) hi).mpr h4), z_0]
    refine Or.inr ⟨fun ⟨i', m', a, b, c⟩ => ?_, rfl⟩
    have e1 := (nI_eq hm (by omega)).mp b
    have e2 := (nI_eq hi (by omega)).mp a
    omega
  rw [if_neg (fun q => h4 ((nI_ltI (by omega) hi).mp q)), z_1]
  exact Or.inl ⟨⟨i, m, rfl, rfl, by omega⟩, rfl⟩
theorem J5_setN {s : SHS} {t t' : MS} (hJ : J5 s t) {k : Nat} (v : Nat → Int64) (hb : ∀ j, j < 4 → mgBitsOf t' j = mgBitsOf t j) (hs : ∀ j, j < 4 → mgSizeOf t' j = mgSizeOf t j) (hn : ∀ j, j < 4 → ∀ i, i < 40 → mgNumbers t' (40 * j + i) = if j = k then v i else mgNumbers t (40 * j + i)) : J5 (sSetN s k v) t' := by
  intro j hj
  obtain ⟨a, b, c, d, e⟩ := hJ j hj
  rw [hb j hj, hs j hj]
  refine ⟨a, b, c, d, fun i hi => ?_⟩
  rw [hn j hj i hi]
  show va_up (sgNumbers s) k v j i = _
  by_cases h : j = k
  · subst h
    rw [va_up_self, if_pos rfl]
  · rw [va_up_ne _ _ h, if_neg h]
    exact e i hi
theorem cp1_l (fu : Nat) {k i l jj m : Nat} (hk : k < 4) (hi : i + m ≤ 40) : ∀ (n q fuel : Nat) (t : MS), q + n = m → n < fuel → (∀ y, y < q → mgMoved t y = mgNumbers t (40 * k + i + y)) → ∃ b, (∀ y, y < m → b y = mgNumbers t (40 * k + i + y)) ∧ g_lp (fun _ _ => none) (fX7_copy_b120B fu (nI k) (nI i) (nI l) (nI jj) (nI m)) fuel t (nI q) = fX7_copy_b157 fu (nI l) (nI jj) (nI m) (msMoved t b) 0 := by
  intro n
  induction n with
  | zero =>
    intro q fuel t hq hf h
    obtain ⟨j, rfl⟩ : ∃ j, fuel = j + 1 := ⟨fuel - 1, by omega⟩
    refine ⟨mgMoved t, fun y hy => h y (by omega), ?_⟩
    rw [g_lp_s]
    unfold fX7_copy_b120B
    rw [if_pos (nI_le (by omega) (by omega))]
    rfl
  | succ n ih =>
    intro q fuel t hq hf h
    obtain ⟨j, rfl⟩ : ∃ j, fuel = j + 1 := ⟨fuel - 1, by omega⟩
    obtain ⟨b, h1, h2⟩ := ih (q + 1) j (muMoved t q (mgNumbers t (40 * k + i + q))) (by omega) (by omega) (fun y hy => by
      show vp_updL (mgMoved t) q _ y = mgNumbers t _
      by_cases e : y = q
      · subst e; exact pk_uLs
      · rw [pk_uLn e]; exact h y (by omega))
    refine ⟨b, h1, ?_⟩
    have st : ∀ K, fX7_copy_b120B fu (nI k) (nI i) (nI l) (nI jj) (nI m) K t (nI q) = K (muMoved t q (mgNumbers t (40 * k + i + q))) (nI (q + 1)) := by
      intro K
      unfold fX7_copy_b120B
      rw [if_neg (nI_ge (by omega) (by omega)), ix40, nI_add, lld_nI (by omega) (by decide), in_nI (by omega) (by decide), nm_s, nI_1, nI_clamp (by omega)]
    rw [g_lp_s, st, h2]
    rfl
theorem cp2_l (fu : Nat) {l jj m : Nat} (hl : l < 4) (hj : jj + m ≤ 40) : ∀ (n q fuel : Nat) (t : MS), q + n = m → n < fuel → g_lp (fun _ _ => none) (fX7_copy_b157B fu (nI l) (nI jj) (nI m)) fuel t (nI q) = some (nI m, msNumbers t (fun y => if 40 * l + jj + q ≤ y ∧ y < 40 * l + jj + m then mgMoved t (y - (40 * l + jj)) else mgNumbers t y)) := by
  intro n
  induction n with
  | zero =>
    intro q fuel t hq hf
    obtain ⟨j, rfl⟩ : ∃ j, fuel = j + 1 := ⟨fuel - 1, by omega⟩
    rw [g_lp_s]
    unfold fX7_copy_b157B
    rw [if_pos (nI_le (by omega) (by omega))]
    have e : (fun y => if 40 * l + jj + q ≤ y ∧ y < 40 * l + jj + m then mgMoved t (y - (40 * l + jj)) else mgNumbers t y) = mgNumbers t := by
      funext y
      rw [if_neg (by omega)]
    rw [e]
    rfl
  | succ n ih =>
    intro q fuel t hq hf
    obtain ⟨j, rfl⟩ : ∃ j, fuel = j + 1 := ⟨fuel - 1, by omega⟩
    have st : ∀ K, fX7_copy_b157B fu (nI l) (nI jj) (nI m) K t (nI q) = K (muNumbers t (40 * l + jj + q) (mgMoved t q)) (nI (q + 1)) := by
      intro K
      unfold fX7_copy_b157B
      rw [if_neg (nI_ge (by omega) (by omega)), lld_nI (by omega) (by decide), ix40, nI_add, in_nI (by omega) (by decide), nm_s, nI_1, nI_clamp (by omega)]
    rw [g_lp_s, st, ih (q + 1) j _ (by omega) (by omega)]
    have e : (fun y => if 40 * l + jj + (q + 1) ≤ y ∧ y < 40 * l + jj + m then mgMoved (muNumbers t (40 * l + jj + q) (mgMoved t q)) (y - (40 * l + jj)) else mgNumbers (muNumbers t (40 * l + jj + q) (mgMoved t q)) y) = fun y => if 40 * l + jj + q ≤ y ∧ y < 40 * l + jj + m then mgMoved t (y - (40 * l + jj)) else mgNumbers t y := by
      funext y
      show (if _ then mgMoved t (y - (40 * l + jj)) else vp_updL (mgNumbers t) (40 * l + jj + q) (mgMoved t q) y) = _
      by_cases h1 : 40 * l + jj + (q + 1) ≤ y ∧ y < 40 * l + jj + m
      · rw [if_pos h1, if_pos (by omega)]
      · rw [if_neg h1]
        by_cases h2 : y = 40 * l + jj + q
        · subst h2
          rw [pk_uLs, if_pos (by omega), show 40 * l + jj + q - (40 * l + jj) = q by omega]
        · rw [pk_uLn h2, if_neg (by omega)]
    rw [e]
    rfl
theorem cpy_in {ρ : Type} {i j m : Nat} (hi : i + m ≤ 40) (hj : j + m ≤ 40) (K : Option ρ) : g_cpy (nI i) (nI j) (nI m) 40 40 K = K := by
  unfold g_cpy
  rw [nI_clamp (by omega), nI_clamp (by omega), nI_clamp (by omega), if_pos ⟨nI_pos (by omega), nI_pos (by omega), nI_pos (by omega), hi, hj⟩]
theorem pr_copy {fu : Nat} (hF : 5000 ≤ fu) {g : Int32} {o : SS} {h k : PS} {p : TPS} {s : SHS} {t : MS} (hJ : JJ g o h k p s t) (a x2 b x4 x5 : Int32) : ∃ r o' s' t', fX6_copy fu g o s a x2 b x4 x5 = some (r, o', s') ∧ fX7_copy fu t a x2 b x4 x5 = some (r, t') ∧ JJ g o' h k p s' t' := by
  have h5 := hJ.2.2.2.2
  have fin : ∃ r o' s' t', fX6_copy_b14 fu g o s = some (r, o', s') ∧ fX7_copy_b14 fu t = some (r, t') ∧ JJ g o' h k p s' t' := by
    unfold fX6_copy_b14 fX7_copy_b14
    rw [f6_0, f7_0]
    exact ⟨_, _, _, _, rfl, rfl, JJ_f hJ 0 (by decide)⟩
  have fin5 : ∃ r o' s' t', fX6_copy_b52 fu g o s = some (r, o', s') ∧ fX7_copy_b39 fu t = some (r, t') ∧ JJ g o' h k p s' t' := by
    unfold fX6_copy_b52 fX7_copy_b39
    rw [f6_5, f7_5]
    exact ⟨_, _, _, _, rfl, rfl, JJ_f hJ 5 (by decide)⟩
  have fin0 : ∃ r o' s' t', fX6_copy_b100 fu g o s = some (r, o', s') ∧ fX7_copy_b110 fu t = some (r, t') ∧ JJ g o' h k p s' t' := by
    unfold fX6_copy_b100 fX7_copy_b110
    rw [f6_0, f7_0]
    exact ⟨_, _, _, _, rfl, rfl, JJ_f hJ 0 (by decide)⟩
  unfold fX6_copy fX7_copy
  rw [isSheet6, isOne7, bnd_s, bnd_s, tb_if, tb_if]
  by_cases ha : (0 : Int32) ≤ a ∧ a ≤ 3
  · obtain ⟨f, hf, rfl⟩ := rngL (n := 3) ha.1 ha.2 (by decide)
    have hf4 : f < 4 := by omega
    rw [if_pos ha, if_pos ha, isSheet6, isOne7, bnd_s, bnd_s, tb_if, tb_if]
    by_cases hb : (0 : Int32) ≤ b ∧ b ≤ 3
    · obtain ⟨l, hl, rfl⟩ := rngL (n := 3) hb.1 hb.2 (by decide)
      have hl4 : l < 4 := by omega
      obtain ⟨q1, q2, q3, ⟨z1, hz1, q4⟩, q5⟩ := h5 f hf4
      obtain ⟨w1, w2, w3, ⟨z2, hz2, w4⟩, w5⟩ := h5 l hl4
      rw [if_pos hb, if_pos hb, in4 hf4, nm_s, in4 hl4, nm_s, nI_clamp (by omega), nI_clamp (by omega), isMis, bnd_s, tb_if, ald4 hf4, ald4 hl4, ald4 hf4, ald4 hl4]
      by_cases hm : mgBitsOf t f = 0
      · have hm6 : hgBits (sGet s f) = 0 := by show sgBits s f = 0; rw [q1]; exact hm
        rw [if_pos hm6, if_pos hm]; exact fin5
      have hm6 : ¬ hgBits (sGet s f) = 0 := by show ¬ sgBits s f = 0; rw [q1]; exact hm
      rw [if_neg hm6, if_neg hm, isMis, bnd_s, tb_if]
      by_cases hm' : mgBitsOf t l = 0
      · have hm6' : hgBits (sGet s l) = 0 := by show sgBits s l = 0; rw [w1]; exact hm'
        rw [if_pos hm6', if_pos hm']; exact fin5
      have hm6' : ¬ hgBits (sGet s l) = 0 := by show ¬ sgBits s l = 0; rw [w1]; exact hm'
      rw [if_neg hm6', if_neg hm', q1, w1]
      by_cases hk : mgBitsOf t f = mgBitsOf t l
      · rw [if_pos hk, if_pos hk, ald4 hf4, ald4 hl4, ← q2, ← w2, q4, w4]
        have no : ¬ (spn z1 x2 x5 ∧ spn z2 x4 x5) → (if x2 < (0 : Int32) then (fX7_copy_b110 fu t) else (if x4 < (0 : Int32) then (fX7_copy_b110 fu t) else (if x5 < (0 : Int32) then (fX7_copy_b110 fu t) else (if (nI z1 - x2) < x5 then (fX7_copy_b110 fu t) else (if x5 ≤ (nI z2 - x4) then (fX7_copy_b120 fu (nI f) x2 (nI l) x4 x5 t (0 : Int32)) else (fX7_copy_b110 fu t)))))) = fX7_copy_b110 fu t := by
          intro hno
          by_cases c1 : x2 < 0
          · rw [if_pos c1]
          rw [if_neg c1]
          by_cases c2 : x4 < 0
          · rw [if_pos c2]
          rw [if_neg c2]
          by_cases c3 : x5 < 0
          · rw [if_pos c3]
          rw [if_neg c3]
          obtain ⟨i, hi, rfl⟩ := nI_of c1
          obtain ⟨j, hj, rfl⟩ := nI_of c2
          obtain ⟨m, hm, rfl⟩ := nI_of c3
          by_cases c4 : (nI z1 - nI i) < nI m
          · rw [if_pos c4]
          rw [if_neg c4]
          by_cases c5 : nI m ≤ (nI z2 - nI j)
          · exfalso
            rw [Int32.lt_iff_toInt_lt, sub_I hz1 hi, nI_toInt hm] at c4
            rw [Int32.le_iff_toInt_le, sub_I hz2 hj, nI_toInt hm] at c5
            exact hno ⟨⟨i, m, rfl, rfl, by omega⟩, ⟨j, m, rfl, rfl, by omega⟩⟩
          · rw [if_neg c5]
        rcases span_s fu (sGet s f) hz1 q4 x2 x5 with ⟨s1, s2⟩ | ⟨s1, s2⟩
        · rcases span_s fu (sGet s l) hz2 w4 x4 x5 with ⟨r1, r2⟩ | ⟨r1, r2⟩
          · rw [s2, bnd_s, if_neg (by decide), r2, bnd_s, if_neg (by decide)]
            obtain ⟨i, m, rfl, rfl, him⟩ := s1
            obtain ⟨j, m', rfl, hmm, hjm⟩ := r1
            have hmm2 := (nI_eq (by omega) (by omega)).mp hmm
            subst hmm2
            have c4 : ¬ (nI z1 - nI i) < nI m := by
              rw [Int32.lt_iff_toInt_lt, sub_I hz1 (by omega), nI_toInt (by omega)]; omega
            have c5 : nI m ≤ (nI z2 - nI j) := by
              rw [Int32.le_iff_toInt_le, sub_I hz2 (by omega), nI_toInt (by omega)]; omega
            obtain ⟨bb, b1, b2⟩ := cp1_l fu (k := f) (i := i) (l := l) (jj := j) (m := m) hf4 (by omega) m 0 fu t (by omega) (by omega) (fun y hy => absurd hy (by omega))
            have f2 : fX7_copy_b120 fu (nI f) (nI i) (nI l) (nI j) (nI m) t 0 = _ := b2
            have c2 := cp2_l fu (l := l) (jj := j) (m := m) hl4 (by omega) m 0 fu (msMoved t bb) (by omega) (by omega)
            have f3 : fX7_copy_b157 fu (nI l) (nI j) (nI m) (msMoved t bb) 0 = _ := c2
            rw [cpy_in (by omega) (by omega), if_neg (nI_pos (by omega)), if_neg (nI_pos (by omega)), if_neg (nI_pos (by omega)), if_neg c4, if_pos c5, f2, f3, nI_clamp (by omega), nI_clamp (by omega), nI_clamp (by omega)]
            refine ⟨_, _, _, _, rfl, rfl, hJ.1, hJ.2.1, hJ.2.2.1, hJ.2.2.2.1, J5_setN h5 _ (fun y hy => rfl) (fun y hy => rfl) (fun y hy x hx => ?_)⟩
            show (if 40 * l + j + 0 ≤ 40 * y + x ∧ 40 * y + x < 40 * l + j + m then bb (40 * y + x - (40 * l + j)) else mgNumbers t (40 * y + x)) = _
            by_cases hyl : y = l
            · subst hyl
              rw [if_pos rfl]
              by_cases hin : j ≤ x ∧ x < j + m
              · rw [if_pos (by omega), pk_cpy_in hin.1 hin.2, b1 _ (by omega), q5 _ (by omega)]
                congr 1
                omega
              · rw [if_neg (by omega), pk_cpy_out (by omega)]
                exact (w5 x hx).symm
            · rw [if_neg (by omega), if_neg hyl]
          · rw [s2, bnd_s, if_neg (by decide), r2, bnd_s, if_pos rfl, no (fun z => r1 z.2)]
            exact fin0
        · rw [s2, bnd_s, if_pos rfl, no (fun z => s1 z.1)]
          exact fin0
      · rw [if_neg hk, if_neg hk, f6_2, f7_2]
        exact ⟨_, _, _, _, rfl, rfl, JJ_f hJ 2 (by decide)⟩
    · rw [if_neg hb, if_neg hb]; exact fin
  · rw [if_neg ha, if_neg ha]; exact fin
