/-! a sheet lays deeds -/
theorem in64 (fu : Nat) (x lo hi : Int64) : fX7_in fu x lo hi = some (tb (lo ≤ x ∧ x ≤ hi)) := by
  unfold fX7_in tb
  by_cases h1 : x < lo
  · rw [if_pos (cmpL_lt.mpr h1), z_0, if_neg (fun h => absurd h.1 (Int64.not_le.mpr h1))]
  · rw [if_neg (fun h => h1 (cmpL_lt.mp h))]
    by_cases h2 : hi < x
    · rw [if_pos (cmpL_gt.mpr h2), z_0, if_neg (fun h => absurd h.2 (Int64.not_le.mpr h2))]
    · rw [if_neg (fun h => h2 (cmpL_gt.mp h)), z_1, if_pos ⟨Int64.not_lt.mp h1, Int64.not_lt.mp h2⟩]
theorem lN_d : ∀ n, n < 256 → Int64.toInt32 (lN n) = nI n := by decide +kernel
theorem l_255 {v : Int64} (h : (0 : Int64) ≤ v ∧ v ≤ 255) : ∃ n, n ≤ 255 ∧ Int64.toInt32 v = nI n := by
  obtain ⟨k, hk, rfl⟩ := pk_lOf (Int64.not_lt.mpr h.1)
  have h2 : lN k ≤ lN 255 := h.2
  have := (pk_lLE hk (by decide)).mp h2
  exact ⟨k, this, lN_d k (by omega)⟩
theorem lay_l (fu : Nat) (g : Int32) (o : SS) {k : Nat} (hk : k < 4) {z : Nat} (hz : z ≤ 40) (s : SHS) (hs : sgSize s k = nI z) : ∀ (n q fuel fuel' : Nat) (x : PS) (t : MS) (c : Int32), q + n = z → n < fuel → n < fuel' → J5 s t → RP x (mgS t) → IS (mgS t) → ∃ r x' s', g_lp (fun _ _ _ _ => none) (fX6_lays_b38B fu g s k) fuel o x c (nI q) = some (r, o, x') ∧ g_lp (fun _ _ _ => none) (fX7_lays_b21B fu (nI k)) fuel' t c (nI q) = some (r, msS t s') ∧ RP x' s' ∧ IS s' := by
  intro n
  induction n with
  | zero =>
    intro q fuel fuel' x t c hq hf hf' h5 hR hI
    obtain ⟨j, rfl⟩ : ∃ j, fuel = j + 1 := ⟨fuel - 1, by omega⟩
    obtain ⟨j', rfl⟩ : ∃ j, fuel' = j + 1 := ⟨fuel' - 1, by omega⟩
    obtain ⟨q1, q2, q3, q4, q5⟩ := h5 k hk
    refine ⟨c, x, mgS t, ?_, ?_, hR, hI⟩
    · rw [g_lp_s]
      unfold fX6_lays_b38B
      rw [hs, if_pos (nI_le (by omega) (by omega))]
    · rw [g_lp_s]
      unfold fX7_lays_b21B
      rw [ald4 hk, ← q2, hs, if_pos (nI_le (by omega) (by omega))]
      rfl
  | succ n ih =>
    intro q fuel fuel' x t c hq hf hf' h5 hR hI
    obtain ⟨j, rfl⟩ : ∃ j, fuel = j + 1 := ⟨fuel - 1, by omega⟩
    obtain ⟨j', rfl⟩ : ∃ j, fuel' = j + 1 := ⟨fuel' - 1, by omega⟩
    obtain ⟨q1, q2, q3, q4, q5⟩ := h5 k hk
    have h8 := hI.1.2
    by_cases hp : vv (mgS t) 0 ≤ q
    · refine ⟨c, x, mgS t, ?_, ?_, hR, hI⟩
      · rw [g_lp_s]
        unfold fX6_lays_b38B
        rw [hs, if_neg (nI_ge (by omega) (by omega)), hR.1, hI.1.1, if_pos (nI_le hp (by omega))]
      · rw [g_lp_s]
        unfold fX7_lays_b21B
        rw [ald4 hk, ← q2, hs, if_neg (nI_ge (by omega) (by omega)), a53_0, hI.1.1, if_pos (nI_le hp (by omega))]
        rfl
    · have hv : sgNumbers s k q = mgNumbers t (40 * k + q) := q5 q (by omega)
      by_cases hc : (0 : Int64) ≤ mgNumbers t (40 * k + q) ∧ mgNumbers t (40 * k + q) ≤ 255
      · obtain ⟨d, hd, e1⟩ := l_255 hc
        have s6 : ∀ K, fX6_lays_b38B fu g s k K o x c (nI q) = K o (puDeeds x q (nI d)) (c + 1) (nI (q + 1)) := by
          intro K
          unfold fX6_lays_b38B
          rw [hs, if_neg (nI_ge (by omega) (by omega)), hR.1, hI.1.1, if_neg (nI_ge (by omega) (by omega)), lld_nI (by omega) (by decide), hv, if_neg (fun w => absurd (cmpL_lt.mp w) (Int64.not_lt.mpr hc.1)), if_neg (fun w => absurd (cmpL_gt.mp w) (Int64.not_lt.mpr hc.2)), in8 (by omega), nm_s, nm_s, nI_1, nI_clamp (by omega), e1]
        have s7 : ∀ K, fX7_lays_b21B fu (nI k) K t c (nI q) = K (muS t (21 + 4 * q + 1) (nI d)) (c + 1) (nI (q + 1)) := by
          intro K
          unfold fX7_lays_b21B fX7_lays_b102
          rw [ald4 hk, ← q2, hs, if_neg (nI_ge (by omega) (by omega)), a53_0, hI.1.1, if_neg (nI_ge (by omega) (by omega)), ix40, lld_nI (by omega) (by decide), in64, bnd_s, spt1 fu (by omega), bnd_s, tb_if, if_pos hc, lld_nI (by omega) (by decide), in53 (by omega), tb_if, if_pos hc, nm_s, nm_s, nI_1, nI_clamp (by omega), e1]
        obtain ⟨r, x', s', r1, r2, r3, r4⟩ := ih (q + 1) j j' (puDeeds x q (nI d)) (muS t (21 + 4 * q + 1) (nI d)) (c + 1) (by omega) (by omega) (by omega) h5 (RP_uDeeds hR (by omega) _) (IS_deeds hI hd)
        refine ⟨r, x', s', ?_, ?_, r3, r4⟩
        · rw [g_lp_s, s6]; exact r1
        · rw [g_lp_s, s7, r2]; rfl
      · have s6 : ∀ K, fX6_lays_b38B fu g s k K o x c (nI q) = K o x c (nI (q + 1)) := by
          intro K
          unfold fX6_lays_b38B
          rw [hs, if_neg (nI_ge (by omega) (by omega)), hR.1, hI.1.1, if_neg (nI_ge (by omega) (by omega)), lld_nI (by omega) (by decide), hv, nm_s, nI_1]
          by_cases c1 : mgNumbers t (40 * k + q) < 0
          · rw [if_pos (cmpL_lt.mpr c1)]
          · rw [if_neg (fun w => c1 (cmpL_lt.mp w))]
            by_cases c2 : 255 < mgNumbers t (40 * k + q)
            · rw [if_pos (cmpL_gt.mpr c2)]
            · exact absurd ⟨Int64.not_lt.mp c1, Int64.not_lt.mp c2⟩ hc
        have s7 : ∀ K, fX7_lays_b21B fu (nI k) K t c (nI q) = K t c (nI (q + 1)) := by
          intro K
          unfold fX7_lays_b21B fX7_lays_b102
          rw [ald4 hk, ← q2, hs, if_neg (nI_ge (by omega) (by omega)), a53_0, hI.1.1, if_neg (nI_ge (by omega) (by omega)), ix40, lld_nI (by omega) (by decide), in64, bnd_s, spt1 fu (by omega), bnd_s, tb_if, if_neg hc, its1 fu t (by omega), bnd_s, in53 (by omega), tb_if, if_neg hc, nm_s, nm_s, nI_1, nI_clamp (by omega), Int32.add_zero]
          have hu : muS t (21 + 4 * q + 1) (mgS t (21 + 4 * q + 1)) = msS t (upd (mgS t) (21 + 4 * q + 1) (mgS t (21 + 4 * q + 1))) := rfl
          rw [hu, upd_id _ _ rfl, ms_id]
        obtain ⟨r, x', s', r1, r2, r3, r4⟩ := ih (q + 1) j j' x t c (by omega) (by omega) (by omega) h5 hR hI
        refine ⟨r, x', s', ?_, ?_, r3, r4⟩
        · rw [g_lp_s, s6]; exact r1
        · rw [g_lp_s, s7, r2]
theorem pr_lays {fu : Nat} (hF : 5000 ≤ fu) {g : Int32} {o : SS} {h k : PS} {p : TPS} {s : SHS} {t : MS} (hJ : JJ g o h k p s t) (a : Int32) : ∃ r o' h' t', fX6_lays fu g o h s a = some (r, o', h') ∧ fX7_lays fu t a = some (r, t') ∧ JJ g o' h' k p s t' := by
  have h5 := hJ.2.2.2.2
  obtain ⟨hR, hI⟩ := hJ.2.1
  unfold fX6_lays fX7_lays
  rw [isSheet6, bnd_s, tb_if]
  by_cases ha : (0 : Int32) ≤ a ∧ a ≤ 3
  · obtain ⟨f, hf, rfl⟩ := rngL (n := 3) ha.1 ha.2 (by decide)
    have hf4 : f < 4 := by omega
    obtain ⟨q1, q2, q3, ⟨n, hn, q4⟩, q5⟩ := h5 f hf4
    rw [if_pos ha, in4 hf4, nm_s, nI_clamp (by omega), isMis, bnd_s, tb_if, wrong_y fu t hf4, bnd_s]
    by_cases hm : mgBitsOf t f = 0
    · have hm6 : hgBits (sGet s f) = 0 := by show sgBits s f = 0; rw [q1]; exact hm
      rw [if_pos hm6, if_pos hm, if_neg (by decide), f6_5, f7_5]
      exact ⟨_, _, _, _, rfl, rfl, JJ_f hJ 5 (by decide)⟩
    · have hm6 : ¬ hgBits (sGet s f) = 0 := by show ¬ sgBits s f = 0; rw [q1]; exact hm
      obtain ⟨r, x', s', r1, r2, r3, r4⟩ := lay_l fu g o hf4 hn s q4 n 0 fu fu h t 0 (by omega) (by omega) (by omega) h5 hR hI
      have f1 : fX6_lays_b38 fu g s f o h 0 0 = _ := r1
      have f2 : fX7_lays_b21 fu (nI f) t 0 0 = _ := r2
      rw [if_neg hm6, if_neg hm, if_pos rfl, f1, f2]
      exact ⟨_, _, _, _, rfl, rfl, JJ_S hJ r3 r4⟩
  · rw [if_neg ha, wrong_n fu t ha, bnd_s, if_neg (by decide), f6_0, f7_0]
    exact ⟨_, _, _, _, rfl, rfl, JJ_f hJ 0 (by decide)⟩
/-! a book -/
theorem bk_ms (t : MS) (k : Nat) (v : Int64) (c : SS) (d d' : Int32) (b : Nat → Int64) : msS (msDryNow (msNumbers (msDryNow (msS (muNumbers t k v) c) d) b) d') (mgAside (msDryNow (msS (muNumbers t k v) c) d)) = msS (msDryNow (msNumbers t b) d') (mgAside t) := rfl
theorem J5_dn {s : SHS} {t : MS} (h : J5 s t) (c : SS) (d : Int32) : J5 s (msDryNow (msS t c) d) := h
theorem bk_J (s : SHS) (t : MS) (k : Nat) (v : Int64) (c : SS) (d : Int32) (b : Nat → Int64) (h : J5 s (msNumbers (msDryNow (msS (muNumbers t k v) c) d) b)) : J5 s (msNumbers t b) := h
theorem bk_l {fu : Nat} (hF : 10 ≤ fu) (g : Int32) (o : SS) (hh : PS) {k : Nat} (hk : k < 4) {f : Nat} (hf4 : f < 4) {z : Nat} (hz : z ≤ 40) : ∀ (n q fuel fuel' : Nat) (x : PS) (s : SHS) (t : MS), q + n = z → n < fuel → n < fuel' → sgSize s k = nI z → J5 s t → RP x (mgS t) → IS (mgS t) → ∃ x' s' b d, g_lp (fun _ _ _ _ => none) (fX6_book_b60B fu g hh (nI f) k) fuel o x s (nI q) = some (nI z, o, x', s') ∧ g_lp (fun _ _ => none) (fX7_book_b24B fu (nI k) (nI f)) fuel' t (nI q) = some (nI z, msS (msDryNow (msNumbers t b) d) (mgAside t)) ∧ J5 s' (msNumbers t b) := by
  intro n
  induction n with
  | zero =>
    intro q fuel fuel' x s t hq hf hf' hs h5 hR hI
    obtain ⟨j, rfl⟩ : ∃ j, fuel = j + 1 := ⟨fuel - 1, by omega⟩
    obtain ⟨j', rfl⟩ : ∃ j, fuel' = j + 1 := ⟨fuel' - 1, by omega⟩
    obtain ⟨q1, q2, q3, q4, q5⟩ := h5 k hk
    have f4 : ∀ u v, fX7_takesBack fu u v = some (v, msS u (mgAside u)) := fun _ _ => rfl
    refine ⟨x, s, mgNumbers t, mgDryNow t, ?_, ?_, h5⟩
    · rw [g_lp_s]
      unfold fX6_book_b60B
      rw [hs, if_pos (nI_le (by omega) (by omega))]
    · rw [g_lp_s]
      unfold fX7_book_b24B
      rw [ald4 hk, ald4 hk, ← q2, hs, if_pos (nI_le (by omega) (by omega)), f4, bnd_s]
      rfl
  | succ n ih =>
    intro q fuel fuel' x s t hq hf hf' hs h5 hR hI
    obtain ⟨j, rfl⟩ : ∃ j, fuel = j + 1 := ⟨fuel - 1, by omega⟩
    obtain ⟨j', rfl⟩ : ∃ j, fuel' = j + 1 := ⟨fuel' - 1, by omega⟩
    obtain ⟨q1, q2, q3, q4, q5⟩ := h5 k hk
    obtain ⟨r1, r2, r3, r4⟩ := hR.2.2.2.1 f hf4
    obtain ⟨x1, a1, a2, a3⟩ := pass_s hF hR hI
    have hbit : hgBits (sGet s k) = mgBitsOf t k := q1
    have ds := day_s hF (muNumbers t (40 * k + q) (narN (mgBitsOf t k) (Int32.toInt64 (mgS t (5 + 4 * f + 1))))) hI
    have hmn : mgS (muNumbers t (40 * k + q) (narN (mgBitsOf t k) (Int32.toInt64 (mgS t (5 + 4 * f + 1))))) = mgS t := rfl
    rw [hmn] at ds
    have s6 : ∀ K, fX6_book_b60B fu g hh (nI f) k K o x s (nI q) = K o x1 (sSet s k (huNumbers (sGet s k) q (narN (mgBitsOf t k) (Int32.toInt64 (mgS t (5 + 4 * f + 1)))))) (nI (q + 1)) := by
      intro K
      unfold fX6_book_b60B
      rw [hs, if_neg (nI_ge (by omega) (by omega)), ald4 hf4, r2, put_s fu _ (by omega), bnd_s, a1, bnd_s, nm_s, nI_1, hbit]
    have s7 : ∀ K, fX7_book_b24B fu (nI k) (nI f) K t (nI q) = K (msDryNow (msS (muNumbers t (40 * k + q) (narN (mgBitsOf t k) (Int32.toInt64 (mgS t (5 + 4 * f + 1))))) (dayN (mgS t))) (dayD (mgS t))) (nI (q + 1)) := by
      intro K
      unfold fX7_book_b24B
      rw [ald4 hk, ← q2, hs, if_neg (nI_ge (by omega) (by omega)), ald4 hk, fld1 fu hf4, bnd_s, ald53 (by omega), nar_s, bnd_s, ix40, in_nI (by omega) (by decide), nI_clamp (by omega), ds, bnd_s, nm_s, nI_1]
    have hs' : sgSize (sSet s k (huNumbers (sGet s k) q (narN (mgBitsOf t k) (Int32.toInt64 (mgS t (5 + 4 * f + 1)))))) k = nI z := by
      show upd (sgSize s) k (sgSize s k) k = nI z
      rw [pk_us]; exact hs
    obtain ⟨x', s', b, d, e1, e2, e3⟩ := ih (q + 1) j j' x1 _ _ (by omega) (by omega) (by omega) hs' (J5_dn (J5_put h5 hk (i := q) (by omega) (narN (mgBitsOf t k) (Int32.toInt64 (mgS t (5 + 4 * f + 1))))) (dayN (mgS t)) (dayD (mgS t))) a2 (IS_dayN hI).1
    refine ⟨x', s', b, d, ?_, ?_, bk_J _ _ _ _ _ _ _ e3⟩
    · rw [g_lp_s, s6]; exact e1
    · rw [g_lp_s, s7, e2, bk_ms]
theorem wb_s (fu : Nat) (t : MS) {f : Nat} (hf : f < 4) (b : Int32) : fX7_wrongBook fu t (nI f) b = some (if mgBitsOf t f = 0 then -1000000006 else if (0 : Int32) ≤ b ∧ b ≤ 3 then 0 else -1000000001) := by
  unfold fX7_wrongBook
  rw [wrong_y fu t hf, bnd_s, isFarm7, bnd_s, tb_if]
  by_cases hm : mgBitsOf t f = 0
  · rw [if_pos hm, if_pos hm, if_neg (by decide)]
  · rw [if_neg hm, if_neg hm, if_pos rfl]
    split <;> rfl
theorem wb_n (fu : Nat) (t : MS) {a : Int32} (ha : ¬ ((0 : Int32) ≤ a ∧ a ≤ 3)) (b : Int32) : fX7_wrongBook fu t a b = some (-1000000001) := by
  unfold fX7_wrongBook
  rw [wrong_n fu t ha, bnd_s, if_neg (by decide)]
theorem pr_book {fu : Nat} (hF : 5000 ≤ fu) {g : Int32} {o : SS} {h k : PS} {p : TPS} {s : SHS} {t : MS} (hJ : JJ g o h k p s t) (q : PS) (a b : Int32) : ∃ r o' q' s' t', fX6_book fu g o h q s a b = some (r, o', q', s') ∧ fX7_book fu t a b = some (r, t') ∧ JJ g o' h k p s' t' := by
  have h5 := hJ.2.2.2.2
  obtain ⟨hR, hI⟩ := hJ.2.1
  unfold fX6_book fX7_book
  rw [isSheet6, bnd_s, tb_if]
  by_cases ha : (0 : Int32) ≤ a ∧ a ≤ 3
  · obtain ⟨f, hf, rfl⟩ := rngL (n := 3) ha.1 ha.2 (by decide)
    have hf4 : f < 4 := by omega
    obtain ⟨q1, q2, q3, ⟨n, hn, q4⟩, q5⟩ := h5 f hf4
    rw [if_pos ha, in4 hf4, nm_s, nI_clamp (by omega), isMis, bnd_s, tb_if, wb_s fu t hf4, bnd_s, isFarm6, bnd_s, tb_if]
    by_cases hm : mgBitsOf t f = 0
    · have hm6 : hgBits (sGet s f) = 0 := by show sgBits s f = 0; rw [q1]; exact hm
      rw [if_pos hm6, if_pos hm, if_neg (by decide), f6_5, f7_5]
      exact ⟨_, _, _, _, _, rfl, rfl, JJ_f hJ 5 (by decide)⟩
    · have hm6 : ¬ hgBits (sGet s f) = 0 := by show ¬ sgBits s f = 0; rw [q1]; exact hm
      rw [if_neg hm6, if_neg hm]
      by_cases hb : (0 : Int32) ≤ b ∧ b ≤ 3
      · obtain ⟨l, hl, rfl⟩ := rngL (n := 3) hb.1 hb.2 (by decide)
        have e0 : fX1_become fu q h = some h := rfl
        have e1 : fX7_laysAside fu t = some (msAside t (mgS t)) := rfl
        obtain ⟨x', s', bb, d, r1, r2, r3⟩ := bk_l (fu := fu) (by omega) g o h hf4 (f := l) (by omega) hn n 0 fu fu h s (msAside t (mgS t)) (by omega) (by omega) (by omega) q4 h5 hR hI
        have f1 : fX6_book_b60 fu g h (nI l) f o h s 0 = _ := r1
        have f2 : fX7_book_b24 fu (nI f) (nI l) (msAside t (mgS t)) 0 = _ := r2
        rw [if_pos hb, if_pos hb, if_pos rfl, e0, bnd_s, f1, e1, bnd_s, f2]
        exact ⟨_, _, _, _, _, rfl, rfl, hJ.1, hJ.2.1, hJ.2.2.1, hJ.2.2.2.1, r3⟩
      · rw [if_neg hb, if_neg hb, if_neg (by decide), f6_0, f7_0]
        exact ⟨_, _, _, _, _, rfl, rfl, JJ_f hJ 0 (by decide)⟩
  · rw [if_neg ha, wb_n fu t ha, bnd_s, if_neg (by decide), f6_0, f7_0]
    exact ⟨_, _, _, _, _, rfl, rfl, JJ_f hJ 0 (by decide)⟩
/-! whom a book tells -/
theorem gb_l {fu : Nat} (hF : 10 ≤ fu) (g : Int32) {k : Nat} (hk : k < 4) {f : Nat} (hf4 : f < 4) {z : Nat} (hz : z ≤ 40) {s : SHS} {t : MS} (h5 : J5 s t) (hs : sgSize s k = nI z) (a e : SS) : ∀ (n q fuel fuel' : Nat) (x : PS) (c : SS) (d : Int32), q + n = z → n < fuel → n < fuel' → RP x c → IS c → ∃ r x' c' d', (r = 0 ∨ r = 1) ∧ g_lp (fun _ _ => none) (fX6_trialGoesBy_b2B fu g (sGet s k) (nI f)) fuel x (nI q) = some (r, x') ∧ g_lp (fun _ _ => none) (fX7_isBook_b2B fu (nI k) (nI f)) fuel' (NF t c a d e) (nI q) = some (r, NF t c' a d' e) := by
  obtain ⟨q1, q2, q3, q4, q5⟩ := h5 k hk
  have hs1 : hgSize (sGet s k) = nI z := hs
  have hs2 : ∀ c d, mgSizeOf (NF t c a d e) k = nI z := fun c d => by
    show mgSizeOf t k = nI z
    rw [← q2]; exact hs
  have hn1 : ∀ q, hgNumbers (sGet s k) q = sgNumbers s k q := fun _ => rfl
  have hn2 : ∀ c d q, mgNumbers (NF t c a d e) q = mgNumbers t q := fun _ _ _ => rfl
  intro n
  induction n with
  | zero =>
    intro q fuel fuel' x c d hq hf hf' hR hI
    obtain ⟨j, rfl⟩ : ∃ j, fuel = j + 1 := ⟨fuel - 1, by omega⟩
    obtain ⟨j', rfl⟩ : ∃ j, fuel' = j + 1 := ⟨fuel' - 1, by omega⟩
    refine ⟨1, x, c, d, Or.inr rfl, ?_, ?_⟩
    · rw [g_lp_s]
      unfold fX6_trialGoesBy_b2B
      rw [hs1, if_pos (nI_le (by omega) (by omega)), z_1]
    · rw [g_lp_s]
      unfold fX7_isBook_b2B
      rw [ald4 hk, hs2, if_pos (nI_le (by omega) (by omega)), z_1]
  | succ n ih =>
    intro q fuel fuel' x c d hq hf hf' hR hI
    obtain ⟨j, rfl⟩ : ∃ j, fuel = j + 1 := ⟨fuel - 1, by omega⟩
    obtain ⟨j', rfl⟩ : ∃ j, fuel' = j + 1 := ⟨fuel' - 1, by omega⟩
    obtain ⟨r1, r2, r3, r4⟩ := hR.2.2.2.1 f hf4
    obtain ⟨x1, a1, a2, a3⟩ := pass_s hF hR hI
    have ds := day_s hF (NF t c a d e) hI
    rw [NF_S, NF_go] at ds
    have s6 : ∀ K, fX6_trialGoesBy_b2B fu g (sGet s k) (nI f) K x (nI q) = if lg_cmp (mgNumbers t (40 * k + q)) (Int32.toInt64 (c (5 + 4 * f + 1))) = 0 then K x1 (nI (q + 1)) else some (0, x) := by
      intro K
      unfold fX6_trialGoesBy_b2B
      rw [hs1, if_neg (nI_ge (by omega) (by omega)), lld_nI (by omega) (by decide), hn1, q5 q (by omega), ald4 hf4, r2, a1, bnd_s, nm_s, nI_1, z_0]
    have s7 : ∀ K, fX7_isBook_b2B fu (nI k) (nI f) K (NF t c a d e) (nI q) = if lg_cmp (mgNumbers t (40 * k + q)) (Int32.toInt64 (c (5 + 4 * f + 1))) = 0 then K (NF t (dayN c) a (dayD c) e) (nI (q + 1)) else some (0, NF t c a d e) := by
      intro K
      unfold fX7_isBook_b2B
      rw [ald4 hk, hs2, if_neg (nI_ge (by omega) (by omega)), ix40, lld_nI (by omega) (by decide), hn2, fld1 fu hf4, bnd_s, NF_S, ald53 (by omega), ds, bnd_s, nm_s, nI_1, z_0]
    rw [g_lp_s, g_lp_s, s6, s7]
    by_cases hc : lg_cmp (mgNumbers t (40 * k + q)) (Int32.toInt64 (c (5 + 4 * f + 1))) = 0
    · rw [if_pos hc, if_pos hc]
      exact ih (q + 1) j j' x1 (dayN c) (dayD c) (by omega) (by omega) (by omega) a2 (IS_dayN hI).1
    · rw [if_neg hc, if_neg hc]
      exact ⟨0, x, c, d, Or.inl rfl, rfl, rfl⟩
theorem rd_l {fu : Nat} (hF : 5000 ≤ fu) (g : Int32) (o : SS) {h : PS} {k : Nat} (hk : k < 4) {f : Nat} (hf4 : f < 4) {z : Nat} (hz : z ≤ 40) {s : SHS} {t : MS} (h5 : J5 s t) (hs : sgSize s k = nI z) (hR : RP h (mgS t)) (hI : IS (mgS t)) (e : SS) : ∀ (n q fuel fuel' : Nat) (x : PS) (d c : Int32), q + n = vv (mgS t) 0 → n < fuel → n < fuel' → ∃ r x' d', g_lp (fun _ _ _ _ => none) (fX6_read_b49B fu g h s (nI k) (nI f)) fuel o x c (nI q) = some (r, o, x') ∧ g_lp (fun _ _ _ => none) (fX7_read_b27B fu (nI k) (nI f)) fuel' (NF t (mgS t) (mgS t) d e) c (nI q) = some (r, NF t (mgS t) (mgS t) d' e) := by
  have h8 := hI.1.2
  intro n
  induction n with
  | zero =>
    intro q fuel fuel' x d c hq hf hf'
    obtain ⟨j, rfl⟩ : ∃ j, fuel = j + 1 := ⟨fuel - 1, by omega⟩
    obtain ⟨j', rfl⟩ : ∃ j, fuel' = j + 1 := ⟨fuel' - 1, by omega⟩
    refine ⟨c, x, d, ?_, ?_⟩
    · rw [g_lp_s]
      unfold fX6_read_b49B
      rw [hR.1, hI.1.1, if_pos (nI_le (by omega) (by omega))]
    · rw [g_lp_s]
      unfold fX7_read_b27B
      rw [a53_0, NF_S, hI.1.1, if_pos (nI_le (by omega) (by omega))]
  | succ n ih =>
    intro q fuel fuel' x d c hq hf hf'
    obtain ⟨j, rfl⟩ : ∃ j, fuel = j + 1 := ⟨fuel - 1, by omega⟩
    obtain ⟨j', rfl⟩ : ∃ j, fuel' = j + 1 := ⟨fuel' - 1, by omega⟩
    obtain ⟨r, x1, c1, d1, hr, b1, b2⟩ := gb_l (fu := fu) (by omega) g hk hf4 hz h5 hs (mgS t) e z 0 fu fu (puSends h f (nI q)) (upd (mgS t) (5 + 4 * f + 3) (nI q)) d (by omega) (by omega) (by omega) (RP_uSends hR hf4 _) (IS_sends hI hf4 (Or.inr ⟨q, by omega, rfl⟩))
    have g1 : fX6_trialGoesBy fu g (puSends h f (nI q)) (sGet s k) (nI f) = some (r, x1) := b1
    have g2 : fX7_isBook fu (NF t (upd (mgS t) (5 + 4 * f + 3) (nI q)) (mgS t) d e) (nI k) (nI f) = some (r, NF t c1 (mgS t) d1 e) := b2
    have e0 : fX1_become fu x h = some h := rfl
    have s6 : ∀ K, fX6_read_b49B fu g h s (nI k) (nI f) K o x c (nI q) = if r = 0 then K o x1 c (nI (q + 1)) else K o x1 (c + 1) (nI (q + 1)) := by
      intro K
      unfold fX6_read_b49B
      rw [hR.1, hI.1.1, if_neg (nI_ge (by omega) (by omega)), e0, bnd_s, in4 hf4, in4 hk, nm_s, nI_clamp (by omega), nI_clamp (by omega), g1, bnd_s, nm_s, nm_s, nm_s, nI_1]
    have s7 : ∀ K, fX7_read_b27B fu (nI k) (nI f) K (NF t (mgS t) (mgS t) d e) c (nI q) = if r = 0 then K (NF t (mgS t) (mgS t) d1 e) c (nI (q + 1)) else K (NF t (mgS t) (mgS t) d1 e) (c + 1) (nI (q + 1)) := by
      intro K
      unfold fX7_read_b27B fX7_read_b67
      rw [a53_0, NF_S, hI.1.1, if_neg (nI_ge (by omega) (by omega)), fld3 fu hf4, bnd_s, in53 (by omega), nI_clamp (by omega), NF_u, g2, bnd_s, NF_tb, NF_tb, bnd_s, bnd_s, nm_s, nm_s, nI_1, Int32.add_zero]
    rw [g_lp_s, g_lp_s, s6, s7]
    rcases hr with rfl | rfl
    · rw [if_pos rfl, if_pos rfl]
      exact ih (q + 1) j j' x1 d1 c (by omega) (by omega) (by omega)
    · rw [if_neg (by decide), if_neg (by decide)]
      exact ih (q + 1) j j' x1 d1 (c + 1) (by omega) (by omega) (by omega)
theorem pr_read {fu : Nat} (hF : 5000 ≤ fu) {g : Int32} {o : SS} {h k : PS} {p : TPS} {s : SHS} {t : MS} (hJ : JJ g o h k p s t) (q : PS) (a b : Int32) : ∃ r o' q' t', fX6_read fu g o h q s a b = some (r, o', q') ∧ fX7_read fu t a b = some (r, t') ∧ JJ g o' h k p s t' := by
  have h5 := hJ.2.2.2.2
  obtain ⟨hR, hI⟩ := hJ.2.1
  have h8 := hI.1.2
  unfold fX6_read fX7_read
  rw [isSheet6, bnd_s, tb_if]
  by_cases ha : (0 : Int32) ≤ a ∧ a ≤ 3
  · obtain ⟨f, hf, rfl⟩ := rngL (n := 3) ha.1 ha.2 (by decide)
    have hf4 : f < 4 := by omega
    obtain ⟨q1, q2, q3, ⟨n, hn, q4⟩, q5⟩ := h5 f hf4
    rw [if_pos ha, in4 hf4, nm_s, nI_clamp (by omega), isMis, bnd_s, tb_if, wb_s fu t hf4, bnd_s, isFarm6, bnd_s, tb_if]
    by_cases hm : mgBitsOf t f = 0
    · have hm6 : hgBits (sGet s f) = 0 := by show sgBits s f = 0; rw [q1]; exact hm
      rw [if_pos hm6, if_pos hm, if_neg (by decide), f6_5, f7_5]
      exact ⟨_, _, _, _, rfl, rfl, JJ_f hJ 5 (by decide)⟩
    · have hm6 : ¬ hgBits (sGet s f) = 0 := by show ¬ sgBits s f = 0; rw [q1]; exact hm
      rw [if_neg hm6, if_neg hm]
      by_cases hb : (0 : Int32) ≤ b ∧ b ≤ 3
      · obtain ⟨l, hl, rfl⟩ := rngL (n := 3) hb.1 hb.2 (by decide)
        have e1 : fX7_laysAside fu t = some (NF t (mgS t) (mgS t) (mgDryNow t) (mgSent t)) := rfl
        obtain ⟨r, x', d', r1, r2⟩ := rd_l hF g o hf4 (f := l) (by omega) hn h5 q4 hR hI (mgSent t) (vv (mgS t) 0) 0 fu fu q (mgDryNow t) 0 (by omega) (by omega) (by omega)
        have f1 : fX6_read_b49 fu g h s (nI f) (nI l) o q 0 0 = _ := r1
        have f2 : fX7_read_b27 fu (nI f) (nI l) (NF t (mgS t) (mgS t) (mgDryNow t) (mgSent t)) 0 0 = _ := r2
        rw [if_pos hb, if_pos hb, if_pos rfl, f1, e1, bnd_s, f2]
        exact ⟨_, _, _, _, rfl, rfl, NF_J hJ _ _ _⟩
      · rw [if_neg hb, if_neg hb, if_neg (by decide), f6_0, f7_0]
        exact ⟨_, _, _, _, rfl, rfl, JJ_f hJ 0 (by decide)⟩
  · rw [if_neg ha, wb_n fu t ha, bnd_s, if_neg (by decide), f6_0, f7_0]
    exact ⟨_, _, _, _, rfl, rfl, JJ_f hJ 0 (by decide)⟩
