/-! days ahead -/
theorem JJ_tb {g : Int32} {o : SS} {h k : PS} {p : TPS} {s : SHS} {t : MS} (hJ : JJ g o h k p s t) (x : SS) (d : Int32) : JJ g o h k p s (msS (msDryNow (msS (msAside t (mgS t)) x) d) (mgS t)) := hJ
theorem mgS_A (t : MS) (x : SS) : mgS (msAside t x) = mgS t := rfl
theorem mgD_d (t : MS) (d : Int32) : mgDryNow (msDryNow t d) = d := rfl
theorem mgA_d (t : MS) (x y : SS) (d : Int32) : mgAside (msDryNow (msS (msAside t x) y) d) = x := rfl
theorem on_l {fu : Nat} (hF : 10 ≤ fu) (g : Int32) (o : SS) (h : PS) {f : Nat} (hf : f < 4) {w : Nat} (hw : w = 1 ∨ w = 2) (N : Nat) (hN : N < 2 ^ 31) : ∀ (n q fuel : Nat) (x : PS) (s : SS), q + n = N → n < fuel → RP x s → IS s → ∃ x', g_lp (fun _ _ _ => none) (fX6_on_b46B fu g h (nI f) (nI N) (nI w)) fuel o x (nI q) = some (dyN n s (5 + 4 * f + w), o, x') := by
  intro n
  induction n with
  | zero =>
    intro q fuel x s hq hfu hR hI
    obtain ⟨j, rfl⟩ : ∃ j, fuel = j + 1 := ⟨fuel - 1, by omega⟩
    obtain ⟨q1, q2, q3, q4⟩ := hR.2.2.2.1 f hf
    rw [g_lp_s]
    unfold fX6_on_b46B
    rw [if_pos (nI_le (by omega) (by omega))]
    rcases hw with rfl | rfl
    · rw [rof1, bnd_s, if_neg (by decide), if_pos rfl, ald4 hf, q2]
      exact ⟨_, rfl⟩
    · rw [rof2, bnd_s, if_neg (by decide), if_neg (by decide), if_pos rfl, ald4 hf, q3]
      exact ⟨_, rfl⟩
  | succ n ih =>
    intro q fuel x s hq hfu hR hI
    obtain ⟨j, rfl⟩ : ∃ j, fuel = j + 1 := ⟨fuel - 1, by omega⟩
    obtain ⟨x1, a1, a2, a3⟩ := pass_s hF hR hI
    have st : ∀ K, fX6_on_b46B fu g h (nI f) (nI N) (nI w) K o x (nI q) = K o x1 (nI (q + 1)) := by
      intro K
      unfold fX6_on_b46B
      rw [if_neg (nI_ge (by omega) (by omega)), a1, bnd_s, nm_s, nI_1]
    rw [g_lp_s, st]
    exact ih (q + 1) j x1 (dayN s) (by omega) (by omega) a2 (IS_dayN hI).1
theorem pr_on {fu : Nat} (hF : 5000 ≤ fu) {g : Int32} {o : SS} {h k : PS} {p : TPS} {s : SHS} {t : MS} (hJ : JJ g o h k p s t) (q : PS) (a b c : Int32) : ∃ r o' q' t', fX6_on fu g o h q a b c = some (r, o', q') ∧ fX7_on fu t a b c = some (r, t') ∧ JJ g o' h k p s t' := by
  obtain ⟨hR, hI⟩ := hJ.2.1
  have fin : ∃ r o' q' t', fX6_on_b26 fu g h o q = some (r, o', q') ∧ fX7_on_b31 fu t = some (r, t') ∧ JJ g o' h k p s t' := by
    unfold fX6_on_b26 fX7_on_b31
    rw [f6_0, f7_0]
    exact ⟨_, _, _, _, rfl, rfl, JJ_f hJ 0 (by decide)⟩
  unfold fX6_on fX7_on
  rw [isFarm6, isFarm7, bnd_s, bnd_s, tb_if, tb_if]
  by_cases ha : (0 : Int32) ≤ a ∧ a ≤ 3
  · rw [if_pos ha, if_pos ha, within_s, bnd_s, tb_if, in_k fu b 0 60 0 60 (by decide) (by decide), bnd_s, tb_if]
    obtain ⟨f, hf, rfl⟩ := rngL (n := 3) ha.1 ha.2 (by decide)
    by_cases hb : (0 : Int32) ≤ b ∧ b ≤ 60
    · obtain ⟨n, hn, rfl⟩ := rngL (n := 60) hb.1 hb.2 (by decide)
      rw [if_pos hb, if_pos hb, within_s, bnd_s, tb_if, in_k fu c 1 2 1 2 (by decide) (by decide), bnd_s, tb_if]
      by_cases hc : (1 : Int32) ≤ c ∧ c ≤ 2
      · obtain ⟨w, hw1, hw2, rfl⟩ := rng1 (n := 2) hc (by decide)
        obtain ⟨x', e1⟩ := on_l (fu := fu) (by omega) g o h (f := f) (by omega) (w := w) (by omega) n (by omega) n 0 fu h (mgS t) (by omega) (by omega) hR hI
        obtain ⟨d, e2⟩ := goesOn_s (fu := fu) (by omega) (N := n) (by omega) (by omega) (msAside t (mgS t)) hI
        have f1 : fX6_on_b46 fu g h (nI f) (nI n) (nI w) o h 0 = some (dyN n (mgS t) (5 + 4 * f + w), o, x') := e1
        rw [mgS_A] at e2
        have f3 : fX7_laysAside fu t = some (msAside t (mgS t)) := rfl
        have f2 : fX1_become fu q h = some h := rfl
        have f4 : ∀ u v, fX7_takesBack fu u v = some (v, msS u (mgAside u)) := fun _ _ => rfl
        rw [if_pos hc, if_pos hc, f2, bnd_s, f1, f3, bnd_s, e2, bnd_s, field_s fu (by omega) (by omega), bnd_s, ald53 (by omega), f4, bnd_s, mgA_d, mgS_d]
        exact ⟨_, _, _, _, rfl, rfl, JJ_tb hJ _ d⟩
      · rw [if_neg hc, if_neg hc]; exact fin
    · rw [if_neg hb, if_neg hb]; exact fin
  · rw [if_neg ha, if_neg ha]; exact fin
theorem bit1 (z : Int32) : z &&& 1 = 0 ∨ z &&& 1 = 1 := by
  have h : (z &&& 1).toBitVec = 0#32 ∨ (z &&& 1).toBitVec = 1#32 := by
    show z.toBitVec &&& 1#32 = 0#32 ∨ z.toBitVec &&& 1#32 = 1#32
    rw [BitVec.and_one_eq_setWidth_ofBool_getLsbD]
    cases z.toBitVec.getLsbD 0
    · exact Or.inl rfl
    · exact Or.inr rfl
  rcases h with h | h
  · exact Or.inl (Int32.toBitVec_inj.mp h)
  · exact Or.inr (Int32.toBitVec_inj.mp h)
def wdr (d : Int32) (f : Nat) : Prop := ((d >>> (nI f &&& (31 : Int32))) &&& (1 : Int32)) = (1 : Int32)
theorem wasDry_s (fu : Nat) (x : PS) (f : Nat) : (wdr (pgDryFarms x) f ∧ fX1_wasDry fu x (nI f) = some 1) ∨ (¬ wdr (pgDryFarms x) f ∧ fX1_wasDry fu x (nI f) = some 0) := by
  unfold fX1_wasDry wdr
  rcases bit1 (pgDryFarms x >>> (nI f &&& (31 : Int32))) with h | h
  · rw [h, if_pos rfl, z_0]
    exact Or.inr ⟨by decide, rfl⟩
  · rw [h, if_neg (by decide), z_1]
    exact Or.inl ⟨rfl, rfl⟩
theorem dry_l {fu : Nat} (hF : 10 ≤ fu) (g : Int32) (o : SS) (h : PS) {f : Nat} (hf : f < 4) : ∀ (n k fuel fuel' : Nat) (q : PS) (t : MS), k + n = 60 → n < fuel → n + 1 < fuel' → RP q (mgS t) → IS (mgS t) → ∃ q' x d, (∃ j, j ≤ 60 ∧ g_lp (fun _ _ _ => none) (fX6_dry_b26B fu g h (nI f)) fuel o q (nI (k + 1)) = some (nI j, o, q') ∧ g_lp (fun _ _ _ => none) (fX7_dryIn_b9B fu (nI f) (nI 60)) fuel' t (nI k) 0 = fX7_dryIn_b61 fu (msDryNow (msS t x) d) (nI j)) ∨ (g_lp (fun _ _ _ => none) (fX6_dry_b26B fu g h (nI f)) fuel o q (nI (k + 1)) = some (-1000000004, foN o 3, q') ∧ g_lp (fun _ _ _ => none) (fX7_dryIn_b9B fu (nI f) (nI 60)) fuel' t (nI k) 0 = fX7_dryIn_b61 fu (msDryNow (msS t x) d) (nI 61)) := by
  intro n
  induction n with
  | zero =>
    intro k fuel fuel' q t hk hfu hfu' hR hI
    obtain ⟨j, rfl⟩ : ∃ j, fuel = j + 1 := ⟨fuel - 1, by omega⟩
    obtain ⟨j', rfl⟩ : ∃ j, fuel' = j + 1 := ⟨fuel' - 1, by omega⟩
    have hk2 : k = 60 := by omega
    subst hk2
    refine ⟨q, mgS t, mgDryNow t, Or.inr ⟨?_, ?_⟩⟩
    · rw [g_lp_s]
      unfold fX6_dry_b26B
      rw [if_pos (show (60 : Int32) < nI (60 + 1) by decide), f6_3, bnd_s]
    · rw [g_lp_s]
      unfold fX7_dryIn_b9B fX7_dryIn_b48
      rw [if_pos (show nI 60 ≤ nI 60 by decide), if_pos rfl]
      rfl
  | succ n ih =>
    intro k fuel fuel' q t hk hfu hfu' hR hI
    obtain ⟨j, rfl⟩ : ∃ j, fuel = j + 1 := ⟨fuel - 1, by omega⟩
    obtain ⟨j', rfl⟩ : ∃ j, fuel' = j + 1 := ⟨fuel' - 1, by omega⟩
    obtain ⟨x1, a1, a2, a3⟩ := pass_s hF hR hI
    have w1 := wasDry_s fu x1 f
    rw [a3] at w1
    have st2 : ∀ K, fX7_dryIn_b9B fu (nI f) (nI 60) K t (nI k) 0 = (if ((dayD (mgS t) >>> (nI f &&& (31 : Int32))) &&& (1 : Int32)) = (1 : Int32) then K (msDryNow (msS t (dayN (mgS t))) (dayD (mgS t))) (nI (k + 1)) 1 else K (msDryNow (msS t (dayN (mgS t))) (dayD (mgS t))) (nI (k + 1)) 0) := by
      intro K
      unfold fX7_dryIn_b9B
      rw [if_neg (nI_ge (by omega) (by omega)), if_pos rfl, day_s hF t hI, bnd_s, nm_s, nI_1, mgD_d]
    unfold wdr at w1
    rcases w1 with ⟨w1, w2⟩ | ⟨w1, w2⟩
    · refine ⟨x1, dayN (mgS t), dayD (mgS t), Or.inl ⟨k + 1, by omega, ?_, ?_⟩⟩
      · rw [g_lp_s]
        unfold fX6_dry_b26B
        rw [if_neg (show ¬ (60 : Int32) < nI (k + 1) from nI_nlt (a := 60) (by omega) (by omega)), a1, bnd_s, w2, bnd_s, if_neg (by decide)]
      · rw [g_lp_s, st2, if_pos w1]
        obtain ⟨i, rfl⟩ : ∃ i, j' = i + 1 := ⟨j' - 1, by omega⟩
        rw [g_lp_s]
        generalize msDryNow (msS t (dayN (mgS t))) (dayD (mgS t)) = t2
        unfold fX7_dryIn_b9B fX7_dryIn_b48
        rw [if_neg (show ¬ (1 : Int32) = 0 by decide), if_neg (show ¬ (1 : Int32) = 0 by decide)]
        split <;> rfl
    · have st1 : ∀ K, fX6_dry_b26B fu g h (nI f) K o q (nI (k + 1)) = K o x1 (nI (k + 1 + 1)) := by
        intro K
        unfold fX6_dry_b26B
        rw [if_neg (show ¬ (60 : Int32) < nI (k + 1) from nI_nlt (a := 60) (by omega) (by omega)), a1, bnd_s, w2, bnd_s, if_pos rfl, nm_s, nI_1]
      obtain ⟨q', x, d, hh⟩ := ih (k + 1) j j' x1 (msDryNow (msS t (dayN (mgS t))) (dayD (mgS t))) (by omega) (by omega) (by omega) a2 (IS_dayN hI).1
      rw [ms_dd] at hh
      rw [g_lp_s, g_lp_s, st1, st2, if_neg w1]
      exact ⟨q', x, d, hh⟩
theorem pr_dry {fu : Nat} (hF : 5000 ≤ fu) {g : Int32} {o : SS} {h k : PS} {p : TPS} {s : SHS} {t : MS} (hJ : JJ g o h k p s t) (q : PS) (a : Int32) : ∃ r o' q' t', fX6_dry fu g o h q a = some (r, o', q') ∧ fX7_dry fu t a = some (r, t') ∧ JJ g o' h k p s t' := by
  obtain ⟨hR, hI⟩ := hJ.2.1
  unfold fX6_dry fX7_dry fX7_dryIn
  rw [isFarm6, isFarm7, bnd_s, bnd_s, tb_if, tb_if]
  by_cases ha : (0 : Int32) ≤ a ∧ a ≤ 3
  · rw [if_pos ha, if_pos ha]
    obtain ⟨f, hf, rfl⟩ := rngL (n := 3) ha.1 ha.2 (by decide)
    have f3 : fX7_laysAside fu t = some (msAside t (mgS t)) := rfl
    have f2 : fX1_become fu q h = some h := rfl
    have f4 : ∀ u v, fX7_dryIn_b61 fu u v = some (v, msS u (mgAside u)) := fun _ _ => rfl
    obtain ⟨q', x, d, hh⟩ := dry_l (fu := fu) (by omega) g o h (f := f) (by omega) 60 0 fu fu h (msAside t (mgS t)) (by omega) (by omega) (by omega) hR hI
    rw [f2, bnd_s, f3, bnd_s]
    rcases hh with ⟨j, hj, e1, e2⟩ | ⟨e1, e2⟩
    · have g1 : fX6_dry_b26 fu g h (nI f) o h 1 = some (nI j, o, q') := e1
      have g2 : fX7_dryIn_b9 fu (nI f) 60 (msAside t (mgS t)) 0 0 = fX7_dryIn_b61 fu (msDryNow (msS (msAside t (mgS t)) x) d) (nI j) := e2
      rw [g1, g2, f4, bnd_s, mgA_d]
      show ∃ r o' q'' t', some (nI j, o, q') = some (r, o', q'') ∧ (if nI j ≤ 60 then _ else _) = some (r, t') ∧ _
      rw [if_pos (show nI j ≤ 60 from nI_le (b := 60) hj (by decide))]
      exact ⟨_, _, _, _, rfl, rfl, JJ_tb hJ _ d⟩
    · have g1 : fX6_dry_b26 fu g h (nI f) o h 1 = some (-1000000004, foN o 3, q') := e1
      have g2 : fX7_dryIn_b9 fu (nI f) 60 (msAside t (mgS t)) 0 0 = fX7_dryIn_b61 fu (msDryNow (msS (msAside t (mgS t)) x) d) (nI 61) := e2
      rw [g1, g2, f4, bnd_s, mgA_d]
      show ∃ r o' q'' t', some (-1000000004, foN o 3, q') = some (r, o', q'') ∧ (if nI 61 ≤ 60 then _ else _) = some (r, t') ∧ _
      rw [if_neg (by decide), f7_3, bnd_s]
      exact ⟨_, _, _, _, rfl, rfl, JJ_f (JJ_tb hJ _ d) 3 (by decide)⟩
  · rw [if_neg ha, if_neg ha, f6_0, f7_0]
    exact ⟨_, _, _, _, rfl, rfl, JJ_f hJ 0 (by decide)⟩
