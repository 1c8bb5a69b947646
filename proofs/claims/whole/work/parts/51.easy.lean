/-! the calls of a parish and of its people -/
theorem rof0 (fu : Nat) (x : PS) : fX1_rowOfFarms fu x (nI 0) = some 1 := if_pos (by decide)
theorem rof1 (fu : Nat) (x : PS) : fX1_rowOfFarms fu x (nI 1) = some 2 := (if_neg (by decide)).trans (if_pos (by decide))
theorem rof2 (fu : Nat) (x : PS) : fX1_rowOfFarms fu x (nI 2) = some 3 := (if_neg (by decide)).trans ((if_neg (by decide)).trans (if_pos (by decide)))
theorem rof3 (fu : Nat) (x : PS) : fX1_rowOfFarms fu x (nI 3) = some 4 := (if_neg (by decide)).trans ((if_neg (by decide)).trans (if_neg (by decide)))
theorem rop0 (fu : Nat) (x : PS) : fX1_rowOfPeople fu x (nI 0) = some 6 := (if_neg (by decide)).trans ((if_neg (by decide)).trans (if_neg (by decide)))
theorem rop1 (fu : Nat) (x : PS) : fX1_rowOfPeople fu x (nI 1) = some 7 := if_pos (by decide)
theorem rop2 (fu : Nat) (x : PS) : fX1_rowOfPeople fu x (nI 2) = some 8 := (if_neg (by decide)).trans (if_pos (by decide))
theorem rop3 (fu : Nat) (x : PS) : fX1_rowOfPeople fu x (nI 3) = some 9 := (if_neg (by decide)).trans ((if_neg (by decide)).trans (if_pos (by decide)))
theorem lof0 (fu : Nat) : fX1_leastOfFarm fu (nI 0) = some 0 := if_neg (by decide)
theorem lof1 (fu : Nat) : fX1_leastOfFarm fu (nI 1) = some 0 := if_neg (by decide)
theorem lof2 (fu : Nat) : fX1_leastOfFarm fu (nI 2) = some 0 := if_neg (by decide)
theorem lof3 (fu : Nat) : fX1_leastOfFarm fu (nI 3) = some (-1) := if_pos (by decide)
theorem mof0 (fu : Nat) (x : PS) : fX1_mostOfFarm fu x (nI 0) = some 20 := if_pos (by decide)
theorem mof1 (fu : Nat) (x : PS) : fX1_mostOfFarm fu x (nI 1) = some 9999 := (if_neg (by decide)).trans (if_neg (by decide))
theorem mof2 (fu : Nat) (x : PS) : fX1_mostOfFarm fu x (nI 2) = some 9999 := (if_neg (by decide)).trans (if_neg (by decide))
theorem mof3 (fu : Nat) (x : PS) : fX1_mostOfFarm fu x (nI 3) = some (pgPeople x - 1) := (if_neg (by decide)).trans (if_pos (by decide))
theorem mop1 (fu : Nat) (x : PS) : fX1_mostOfPerson fu x (nI 1) = some 255 := if_pos (by decide)
theorem mop2 (fu : Nat) (x : PS) : fX1_mostOfPerson fu x (nI 2) = some (pgPeople x - 1) := (if_neg (by decide)).trans (if_pos (by decide))
theorem mop3 (fu : Nat) (x : PS) : fX1_mostOfPerson fu x (nI 3) = some 9 := (if_neg (by decide)).trans (if_neg (by decide))
theorem far_no (fu : Nat) (t : MS) {b : Int32} (c : Int32) (hb : ¬ ((0 : Int32) ≤ b ∧ b ≤ 3)) : fX7_isFarms fu t b c = some 0 := by
  unfold fX7_isFarms
  rw [if_neg (fun e => hb (by subst e; decide)), if_neg (fun e => hb (by subst e; decide)), if_neg (fun e => hb (by subst e; decide)), if_neg (fun e => hb (by subst e; decide)), z_0]
theorem far0 (fu : Nat) (t : MS) (c : Int32) : fX7_isFarms fu t (nI 0) c = some (tb ((0 : Int32) ≤ c ∧ c ≤ 20)) := by
  unfold fX7_isFarms
  rw [if_pos (by decide), in_k fu c 0 20 0 20 (by decide) (by decide), bnd_s, z_tb]
theorem far42 (fu : Nat) (t : MS) (c : Int32) : fX7_isFarms_b42 fu t c = some (tb ((0 : Int32) ≤ c ∧ c ≤ 9999)) := by
  unfold fX7_isFarms_b42
  rw [in_k fu c 0 9999 0 9999 (by decide) (by decide), bnd_s, z_tb]
theorem far1 (fu : Nat) (t : MS) (c : Int32) : fX7_isFarms fu t (nI 1) c = some (tb ((0 : Int32) ≤ c ∧ c ≤ 9999)) := by
  unfold fX7_isFarms
  rw [if_neg (by decide), if_pos (by decide), far42]
theorem far2 (fu : Nat) (t : MS) (c : Int32) : fX7_isFarms fu t (nI 2) c = some (tb ((0 : Int32) ≤ c ∧ c ≤ 9999)) := by
  unfold fX7_isFarms
  rw [if_neg (by decide), if_neg (by decide), if_pos (by decide), far42]
theorem m1_le {v y : Int32} (hy : (-1 : Int32) ≤ y) : ((-1 : Int32) ≤ v ∧ v ≤ y) ↔ (v = -1 ∨ ((0 : Int32) ≤ v ∧ v ≤ y)) := by
  have e1 : (-1 : Int32).toInt = -1 := by decide
  have e0 : (0 : Int32).toInt = 0 := by decide
  constructor
  · rintro ⟨a, b⟩
    by_cases h : v = -1
    · exact Or.inl h
    · refine Or.inr ⟨?_, b⟩
      have h2 : v.toInt ≠ -1 := fun e => h (Int32.toInt_inj.mp (e.trans e1.symm))
      rw [Int32.le_iff_toInt_le] at a ⊢
      omega
  · rintro (a | ⟨a, b⟩)
    · subst a; exact ⟨Int32.le_refl _, hy⟩
    · refine ⟨?_, b⟩
      rw [Int32.le_iff_toInt_le] at a ⊢
      omega
theorem m1_n : ∀ n, n < 9 → (-1 : Int32) ≤ nI n - 1 := by decide
theorem far3 (fu : Nat) (t : MS) (hI : IS (mgS t)) (c : Int32) : fX7_isFarms fu t (nI 3) c = some (tb ((-1 : Int32) ≤ c ∧ c ≤ mgS t 0 - 1)) := by
  have h8 := hI.1.2
  have hy : (-1 : Int32) ≤ mgS t 0 - 1 := by rw [hI.1.1]; exact m1_n _ (by omega)
  have hm := m1_le (v := c) hy
  unfold fX7_isFarms
  rw [if_neg (by decide), if_neg (by decide), if_neg (by decide), if_pos (by decide), isPerson_s, bnd_s, tb_if, z_1, z_0]
  unfold tb
  by_cases h : c = -1
  · rw [if_pos h, if_pos (hm.mpr (Or.inl h))]
  · rw [if_neg h]
    by_cases h2 : (0 : Int32) ≤ c ∧ c ≤ mgS t 0 - 1
    · rw [if_pos h2, if_pos (hm.mpr (Or.inr h2))]
    · rw [if_neg h2, if_neg (fun z => (hm.mp z).elim h h2)]
theorem ISsends {s : SS} (hI : IS s) {v : Int32} (h : (-1 : Int32) ≤ v ∧ v ≤ s 0 - 1) : v = -1 ∨ ∃ k, k < vv s 0 ∧ v = nI k := by
  have h8 := hI.1.2
  have hy : (-1 : Int32) ≤ s 0 - 1 := by rw [hI.1.1]; exact m1_n _ (by omega)
  rcases (m1_le hy).mp h with h | h
  · exact Or.inl h
  · exact Or.inr (rngP hI h)
theorem pr_farm {fu : Nat} {g : Int32} {o : SS} {h k : PS} {p : TPS} {s : SHS} {t : MS} (hJ : JJ g o h k p s t) (a b c : Int32) : ∃ r o' h' t', fX6_farm fu g o h a b c = some (r, o', h') ∧ fX7_farm fu t a b c = some (r, t') ∧ JJ g o' h' k p s t' := by
  obtain ⟨hR, hI⟩ := hJ.2.1
  have fin : ∃ r o' h' t', fX6_farm_b16 fu g o h = some (r, o', h') ∧ fX7_farm_b29 fu t = some (r, t') ∧ JJ g o' h' k p s t' := by
    unfold fX6_farm_b16 fX7_farm_b29
    rw [f6_0, f7_0]
    exact ⟨_, _, _, _, rfl, rfl, JJ_f hJ 0 (by decide)⟩
  unfold fX6_farm fX7_farm
  rw [isFarm6, isFarm7, bnd_s, bnd_s, tb_if, tb_if]
  by_cases ha : (0 : Int32) ≤ a ∧ a ≤ 3
  · rw [if_pos ha, if_pos ha, within_s, bnd_s, tb_if]
    obtain ⟨f, hf, rfl⟩ := rngL (n := 3) ha.1 ha.2 (by decide)
    by_cases hb : (0 : Int32) ≤ b ∧ b ≤ 3
    · rw [if_pos hb]
      obtain ⟨w, hw, rfl⟩ := rngL (n := 3) hb.1 hb.2 (by decide)
      obtain ⟨q1, q2, q3, q4⟩ := hR.2.2.2.1 f (by omega)
      have hw4 : w = 0 ∨ w = 1 ∨ w = 2 ∨ w = 3 := by omega
      rcases hw4 with rfl | rfl | rfl | rfl
      · rw [lof0, bnd_s, mof0, bnd_s, within_s, bnd_s, tb_if, far0, bnd_s, tb_if]
        by_cases hc : (0 : Int32) ≤ c ∧ c ≤ 20
        · obtain ⟨v, hv, rfl⟩ := rngL (n := 20) hc.1 hc.2 (by decide)
          rw [if_pos hc, if_pos hc, rof0, bnd_s, if_pos rfl, ald4 (by omega), in4 (by omega), field_s fu (by omega) (by decide), bnd_s, becomes_s fu t (by omega), bnd_s, nI_clamp (by omega), q1]
          exact ⟨_, _, _, _, rfl, rfl, JJ_u hJ (RP_uNeed hR (by omega) _) (IS_need hI (by omega) hv)⟩
        · rw [if_neg hc, if_neg hc]; exact fin
      · rw [lof1, bnd_s, mof1, bnd_s, within_s, bnd_s, tb_if, far1, bnd_s, tb_if]
        by_cases hc : (0 : Int32) ≤ c ∧ c ≤ 9999
        · obtain ⟨v, hv, rfl⟩ := rngL (n := 9999) hc.1 hc.2 (by decide)
          rw [if_pos hc, if_pos hc, rof1, bnd_s, if_neg (by decide), if_pos rfl, ald4 (by omega), in4 (by omega), field_s fu (by omega) (by decide), bnd_s, becomes_s fu t (by omega), bnd_s, nI_clamp (by omega), q2]
          exact ⟨_, _, _, _, rfl, rfl, JJ_u hJ (RP_uStore hR (by omega) _) (IS_store hI (by omega) hv)⟩
        · rw [if_neg hc, if_neg hc]; exact fin
      · rw [lof2, bnd_s, mof2, bnd_s, within_s, bnd_s, tb_if, far2, bnd_s, tb_if]
        by_cases hc : (0 : Int32) ≤ c ∧ c ≤ 9999
        · obtain ⟨v, hv, rfl⟩ := rngL (n := 9999) hc.1 hc.2 (by decide)
          rw [if_pos hc, if_pos hc, rof2, bnd_s, if_neg (by decide), if_neg (by decide), if_pos rfl, ald4 (by omega), in4 (by omega), field_s fu (by omega) (by decide), bnd_s, becomes_s fu t (by omega), bnd_s, nI_clamp (by omega), q3]
          exact ⟨_, _, _, _, rfl, rfl, JJ_u hJ (RP_uThirst hR (by omega) _) (IS_thirst hI (by omega) hv)⟩
        · rw [if_neg hc, if_neg hc]; exact fin
      · rw [lof3, bnd_s, mof3, bnd_s, within_s, bnd_s, tb_if, far3 fu t hI, bnd_s, tb_if, hR.1]
        by_cases hc : (-1 : Int32) ≤ c ∧ c ≤ mgS t 0 - 1
        · rw [if_pos hc, if_pos hc, rof3, bnd_s, if_neg (by decide), if_neg (by decide), if_neg (by decide), if_pos rfl, ald4 (by omega), in4 (by omega), field_s fu (by omega) (by decide), bnd_s, becomes_s fu t (by omega), bnd_s, nI_clamp (by omega), q4]
          exact ⟨_, _, _, _, rfl, rfl, JJ_u hJ (RP_uSends hR (by omega) _) (IS_sends hI (by omega) (ISsends hI hc))⟩
        · rw [if_neg hc, if_neg hc]; exact fin
    · rw [if_neg hb, far_no fu t c hb, bnd_s, if_pos rfl]
      exact fin
  · rw [if_neg ha, if_neg ha]; exact fin
theorem pr_farmOf {fu : Nat} {g : Int32} {o : SS} {h k : PS} {p : TPS} {s : SHS} {t : MS} (hJ : JJ g o h k p s t) (a b : Int32) : ∃ r o' t', fX6_farmOf fu g o h a b = some (r, o') ∧ fX7_farmOf fu t a b = some (r, t') ∧ JJ g o' h k p s t' := by
  obtain ⟨hR, hI⟩ := hJ.2.1
  have fin : ∃ r o' t', fX6_farmOf_b16 fu g h o = some (r, o') ∧ fX7_farmOf_b32 fu t = some (r, t') ∧ JJ g o' h k p s t' := by
    unfold fX6_farmOf_b16 fX7_farmOf_b32
    rw [f6_0, f7_0]
    exact ⟨_, _, _, rfl, rfl, JJ_f hJ 0 (by decide)⟩
  unfold fX6_farmOf fX7_farmOf
  rw [isFarm6, isFarm7, bnd_s, bnd_s, tb_if, tb_if]
  by_cases ha : (0 : Int32) ≤ a ∧ a ≤ 3
  · rw [if_pos ha, if_pos ha, within_s, bnd_s, tb_if, in_k fu b 0 3 0 3 (by decide) (by decide), bnd_s, tb_if]
    obtain ⟨f, hf, rfl⟩ := rngL (n := 3) ha.1 ha.2 (by decide)
    by_cases hb : (0 : Int32) ≤ b ∧ b ≤ 3
    · rw [if_pos hb, if_pos hb]
      obtain ⟨w, hw, rfl⟩ := rngL (n := 3) hb.1 hb.2 (by decide)
      obtain ⟨q1, q2, q3, q4⟩ := hR.2.2.2.1 f (by omega)
      rw [field_s fu (by omega) (by omega), bnd_s, ald53 (by omega)]
      have hw4 : w = 0 ∨ w = 1 ∨ w = 2 ∨ w = 3 := by omega
      rcases hw4 with rfl | rfl | rfl | rfl
      · rw [rof0, bnd_s, if_pos rfl, ald4 (by omega), q1]
        exact ⟨_, _, _, rfl, rfl, hJ⟩
      · rw [rof1, bnd_s, if_neg (by decide), if_pos rfl, ald4 (by omega), q2]
        exact ⟨_, _, _, rfl, rfl, hJ⟩
      · rw [rof2, bnd_s, if_neg (by decide), if_neg (by decide), if_pos rfl, ald4 (by omega), q3]
        exact ⟨_, _, _, rfl, rfl, hJ⟩
      · rw [rof3, bnd_s, if_neg (by decide), if_neg (by decide), if_neg (by decide), if_pos rfl, ald4 (by omega), q4]
        exact ⟨_, _, _, rfl, rfl, hJ⟩
    · rw [if_neg hb, if_neg hb]
      exact fin
  · rw [if_neg ha, if_neg ha]; exact fin
theorem mw0 : gMW 0 = 9999 := by decide
theorem mw1 : gMW 1 = 99 := by decide
theorem mw2 : gMW 2 = 5 := by decide
theorem pr_water {fu : Nat} {g : Int32} {o : SS} {h k : PS} {p : TPS} {s : SHS} {t : MS} (hJ : JJ g o h k p s t) (a b : Int32) : ∃ r o' h' t', fX6_water fu g o h a b = some (r, o', h') ∧ fX7_water fu t a b = some (r, t') ∧ JJ g o' h' k p s t' := by
  obtain ⟨hR, hI⟩ := hJ.2.1
  have fin : ∃ r o' h' t', fX6_water_b22 fu g o h = some (r, o', h') ∧ fX7_water_b50 fu t a b 0 = some (r, t') ∧ JJ g o' h' k p s t' := by
    unfold fX6_water_b22 fX7_water_b50
    rw [f6_0, if_pos rfl, f7_0]
    exact ⟨_, _, _, _, rfl, rfl, JJ_f hJ 0 (by decide)⟩
  unfold fX6_water fX7_water
  rw [within_s, bnd_s, tb_if, in_k fu a 0 2 0 2 (by decide) (by decide), bnd_s, tb_if]
  by_cases ha : (0 : Int32) ≤ a ∧ a ≤ 2
  · obtain ⟨w, hw, rfl⟩ := rngL (n := 2) ha.1 ha.2 (by decide)
    rw [if_pos ha, if_pos ha, ald3 (by omega), within_s, bnd_s, tb_if]
    have hw3 : w = 0 ∨ w = 1 ∨ w = 2 := by omega
    have hq := hR.2.2.1 w (by omega)
    have fin1 : ∀ (hi : Int32) (hiL : Int64), hiL = hi.toInt64 → (∀ v, nI v ≤ hi → v < 2 ^ 31 → IS (upd (mgS t) (2 + w) (nI v))) → gMW w = hi → ∃ r o' h' t', (if (0 : Int32) ≤ b ∧ b ≤ gMW w then g_ald (pgWater h) 3 (nI w) (fun v36 => g_in (nI w) 3 (some (v36, o, puWater h (Int32.toNatClampNeg (nI w)) b))) else fX6_water_b22 fu g o h) = some (r, o', h') ∧ fX7_water_b39 fu t (nI w) b hiL (0 : Int64) (Int32.toInt64 b) = some (r, t') ∧ JJ g o' h' k p s t' := by
      intro hi hiL e1 e2 e3
      unfold fX7_water_b39
      rw [e3, in_k fu b 0 hiL 0 hi (by decide) e1, bnd_s, tb_if]
      by_cases hb : (0 : Int32) ≤ b ∧ b ≤ hi
      · rw [if_pos hb, if_pos hb]
        obtain ⟨v, hv, rfl⟩ := nI_of (Int32.not_lt.mpr hb.1)
        unfold fX7_water_b50
        rw [if_neg (by decide), ald3 (by omega), in3 (by omega), show (2 : Int32) + nI w = nI (2 + w) from nI_add 2 w, becomes_s fu t (by omega), bnd_s, nI_clamp (by omega), hq]
        exact ⟨_, _, _, _, rfl, rfl, JJ_u hJ (RP_uWater hR (by omega) _) (e2 v hb.2 hv)⟩
      · rw [if_neg hb, if_neg hb]; exact fin
    rcases hw3 with rfl | rfl | rfl
    · rw [if_pos (show nI 0 = (0 : Int32) by decide)]
      exact fin1 9999 9999 (by decide) (fun v h1 h2 => IS_well hI ((nI_leI (b := 9999) h2 (by decide)).mp h1)) mw0
    · rw [if_neg (show ¬ nI 1 = (0 : Int32) by decide), if_pos (show nI 1 = (1 : Int32) by decide)]
      exact fin1 99 99 (by decide) (fun v h1 h2 => IS_spring hI ((nI_leI (b := 99) h2 (by decide)).mp h1)) mw1
    · rw [if_neg (show ¬ nI 2 = (0 : Int32) by decide), if_neg (show ¬ nI 2 = (1 : Int32) by decide)]
      exact fin1 5 5 (by decide) (fun v h1 h2 => IS_bottom hI ((nI_leI (b := 5) h2 (by decide)).mp h1)) mw2
  · rw [if_neg ha, if_neg ha]; exact fin
theorem pr_person {fu : Nat} {g : Int32} {o : SS} {h k : PS} {p : TPS} {s : SHS} {t : MS} (hJ : JJ g o h k p s t) (a : Int32) : ∃ r o' h' t', fX6_person fu g o h a = some (r, o', h') ∧ fX7_person fu t a = some (r, t') ∧ JJ g o' h' k p s t' := by
  obtain ⟨hR, hI⟩ := hJ.2.1
  have h8 := hI.1.2
  unfold fX6_person fX7_person
  rw [isKind0, isKind7, bnd_s, bnd_s, tb_if, tb_if]
  by_cases ha : (0 : Int32) ≤ a ∧ a ≤ 5
  · obtain ⟨v, hv, rfl⟩ := rngL (n := 5) ha.1 ha.2 (by decide)
    rw [if_pos ha, if_pos ha, a53_0, hR.1, hI.1.1]
    by_cases hn : vv (mgS t) 0 < 8
    · obtain ⟨x', e1, e2⟩ := addPerson_s fu hR hI hn v
      rw [if_pos (show nI (vv (mgS t) 0) < (8 : Int32) from nI_lt (b := 8) hn (by decide)), if_neg (show ¬ nI (vv (mgS t) 0) = (8 : Int32) from fun z => by have := (nI_eq (b := 8) (by omega) (by decide)).mp z; omega), e1, adds_s fu t hI hn v]
      exact ⟨_, _, _, _, rfl, rfl, JJ_S hJ e2 (IS_add hI hn hv).1⟩
    · have e8 : vv (mgS t) 0 = 8 := by omega
      rw [e8, if_neg (by decide), if_pos (by decide), f6_1, f7_1]
      exact ⟨_, _, _, _, rfl, rfl, JJ_f hJ 1 (by decide)⟩
  · rw [if_neg ha, if_neg ha, f6_0, f7_0]
    exact ⟨_, _, _, _, rfl, rfl, JJ_f hJ 0 (by decide)⟩
theorem deservedBy_s (fu : Nat) {x : PS} {s : SS} (h : RP x s) (hI : IS s) {p : Nat} (hp : p < vv s 0) : fX1_deservedBy fu x (nI p) = some (nI (dsN (vv s (21 + 4 * p + 0)) (vv s (21 + 4 * p + 1)))) := by
  have h8 := hI.1.2
  obtain ⟨a, b, c, e⟩ := hI.2.2.2.2.2.2 p hp
  obtain ⟨q1, q2, q3, q4⟩ := h.2.2.2.2 p (by omega)
  have ha := a.2
  have hb := b.2
  unfold fX1_deservedBy
  rw [ald8 (by omega), ald8 (by omega), q1, q2, a.1, b.1, deserved_s fu (by omega) (by omega), bnd_s]
theorem deservesP_s {fu : Nat} (hf : 10 ≤ fu) (t : MS) (hI : IS (mgS t)) {p : Nat} (hp : p < vv (mgS t) 0) : fX7_deserves fu t (nI p) = some (nI (dsN (vv (mgS t) (21 + 4 * p + 0)) (vv (mgS t) (21 + 4 * p + 1)))) := by
  have h8 := hI.1.2
  obtain ⟨a, b, c, e⟩ := hI.2.2.2.2.2.2 p hp
  have ha := a.2
  have hb := b.2
  exact deserves_s hf t (by omega) a.1 (by omega) b.1 (by omega)
theorem givenTo_s (fu : Nat) {x : PS} {s : SS} (h : RP x s) (hI : IS s) {p : Nat} (hp : p < vv s 0) : fX1_givenTo fu x (nI p) = some (nI (gP s p)) := by
  have h8 := hI.1.2
  obtain ⟨a, b, ⟨c, c2⟩, e⟩ := hI.2.2.2.2.2.2 p hp
  obtain ⟨q1, q2, q3, q4⟩ := h.2.2.2.2 p (by omega)
  have ha := a.2
  have hb := b.2
  unfold fX1_givenTo
  rw [ald8 (by omega), ald8 (by omega), ald8 (by omega), q1, q2, q3, a.1, b.1, c.1, gift_s fu h hI hp (by omega) (by omega) c2, bnd_s]
  rfl
theorem pr_of {fu : Nat} (hF : 10 ≤ fu) {g : Int32} {o : SS} {h k : PS} {p : TPS} {s : SHS} {t : MS} (hJ : JJ g o h k p s t) (a b : Int32) : ∃ r o' t', fX6_of fu g o h a b = some (r, o') ∧ fX7_of fu t a b = some (r, t') ∧ JJ g o' h k p s t' := by
  obtain ⟨hR, hI⟩ := hJ.2.1
  have h8 := hI.1.2
  have fin : ∃ r o' t', fX6_of_b20 fu g h o = some (r, o') ∧ fX7_of_b20 fu t = some (r, t') ∧ JJ g o' h k p s t' := by
    unfold fX6_of_b20 fX7_of_b20
    rw [f6_0, f7_0]
    exact ⟨_, _, _, rfl, rfl, JJ_f hJ 0 (by decide)⟩
  unfold fX6_of fX7_of
  rw [isThere_s fu hR hI, isPerson_s, bnd_s, bnd_s, tb_if, tb_if]
  by_cases ha : (0 : Int32) ≤ a ∧ a ≤ mgS t 0 - 1
  · rw [if_pos ha, if_pos ha, within_s, bnd_s, tb_if, in_k fu b 0 5 0 5 (by decide) (by decide), bnd_s, tb_if]
    obtain ⟨f, hf, rfl⟩ := rngP hI ha
    by_cases hb : (0 : Int32) ≤ b ∧ b ≤ 5
    · rw [if_pos hb, if_pos hb]
      obtain ⟨w, hw, rfl⟩ := rngL (n := 5) hb.1 hb.2 (by decide)
      obtain ⟨q1, q2, q3, q4⟩ := hR.2.2.2.2 f (by omega)
      have hw6 : w = 0 ∨ w = 1 ∨ w = 2 ∨ w = 3 ∨ w = 4 ∨ w = 5 := by omega
      rcases hw6 with rfl | rfl | rfl | rfl | rfl | rfl
      · rw [if_neg (by decide), if_neg (by decide), if_neg (by decide), rop0, bnd_s, if_pos rfl, ald8 (by omega), its_s fu t (by omega) (by decide), bnd_s, q1]
        exact ⟨_, _, _, rfl, rfl, hJ⟩
      · rw [if_neg (by decide), if_neg (by decide), if_neg (by decide), rop1, bnd_s, if_neg (by decide), if_pos rfl, ald8 (by omega), its_s fu t (by omega) (by decide), bnd_s, q2]
        exact ⟨_, _, _, rfl, rfl, hJ⟩
      · rw [if_neg (by decide), if_neg (by decide), if_neg (by decide), rop2, bnd_s, if_neg (by decide), if_neg (by decide), if_pos rfl, ald8 (by omega), its_s fu t (by omega) (by decide), bnd_s, q3]
        exact ⟨_, _, _, rfl, rfl, hJ⟩
      · rw [if_neg (by decide), if_neg (by decide), if_neg (by decide), rop3, bnd_s, if_neg (by decide), if_neg (by decide), if_neg (by decide), if_pos rfl, ald8 (by omega), its_s fu t (by omega) (by decide), bnd_s, q4]
        exact ⟨_, _, _, rfl, rfl, hJ⟩
      · rw [if_pos (by decide), if_pos (by decide), if_pos (by decide), deservedBy_s fu hR hI hf, bnd_s, deservesP_s hF t hI hf, bnd_s]
        exact ⟨_, _, _, rfl, rfl, hJ⟩
      · rw [if_neg (by decide), if_pos (by decide), if_pos (by decide), if_neg (by decide), givenTo_s fu hR hI hf, bnd_s, gives_s hF t hI hf, bnd_s]
        exact ⟨_, _, _, rfl, rfl, hJ⟩
    · rw [if_neg hb, if_neg hb]; exact fin
  · rw [if_neg ha, if_neg ha]; exact fin
