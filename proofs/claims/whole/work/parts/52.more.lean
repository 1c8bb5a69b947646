/-! more calls of the people -/
theorem pr_set {fu : Nat} {g : Int32} {o : SS} {h k : PS} {p : TPS} {s : SHS} {t : MS} (hJ : JJ g o h k p s t) (a b c : Int32) : ∃ r o' h' t', fX6_set fu g o h a b c = some (r, o', h') ∧ fX7_set fu t a b c = some (r, t') ∧ JJ g o' h' k p s t' := by
  obtain ⟨hR, hI⟩ := hJ.2.1
  have h8 := hI.1.2
  have fin : ∃ r o' h' t', fX6_set_b20 fu g o h = some (r, o', h') ∧ fX7_set_b80 fu t = some (r, t') ∧ JJ g o' h' k p s t' := by
    unfold fX6_set_b20 fX7_set_b80
    rw [f6_0, f7_0]
    exact ⟨_, _, _, _, rfl, rfl, JJ_f hJ 0 (by decide)⟩
  have mno : ¬ ((0 : Int32) ≤ a ∧ a ≤ mgS t 0 - 1) → ∀ y, fX7_set_b52 fu t a b c y = fX7_set_b80 fu t := by
    intro ha y
    unfold fX7_set_b52
    rw [isPerson_s, bnd_s, tb_if, if_neg ha]
  have mno0 : fX7_set_b52 fu t a b c 0 = fX7_set_b80 fu t := by
    unfold fX7_set_b52
    rw [isPerson_s, bnd_s, tb_if]
    by_cases ha : (0 : Int32) ≤ a ∧ a ≤ mgS t 0 - 1
    · rw [if_pos ha, if_pos rfl]
    · rw [if_neg ha]
  unfold fX6_set
  rw [isThere_s fu hR hI, bnd_s, tb_if]
  by_cases ha : (0 : Int32) ≤ a ∧ a ≤ mgS t 0 - 1
  · rw [if_pos ha, within_s, bnd_s, tb_if]
    by_cases hb : (1 : Int32) ≤ b ∧ b ≤ 3
    · rw [if_pos hb]
      obtain ⟨f, hf, rfl⟩ := rngP hI ha
      have hb0 : (0 : Int32) ≤ b := by
        have := hb.1
        rw [Int32.le_iff_toInt_le] at this ⊢
        have e1 : (1 : Int32).toInt = 1 := by decide
        have e0 : (0 : Int32).toInt = 0 := by decide
        omega
      obtain ⟨w, hw, rfl⟩ := rngL (n := 3) hb0 hb.2 (by decide)
      have hw1 : 1 ≤ w := (nI_leI (a := 1) (by decide) (by omega)).mp hb.1
      obtain ⟨q1, q2, q3, q4⟩ := hR.2.2.2.2 f (by omega)
      have myes : fX7_set_b52 fu t (nI f) (nI w) c 1 = some (mgS t (21 + 4 * f + w), muS t (21 + 4 * f + w) c) := by
        unfold fX7_set_b52
        rw [isPerson_s, bnd_s, tb_if, if_pos ha, if_neg (by decide), spot_s fu (by omega) (by omega), bnd_s, becomes_s fu t (by omega), bnd_s]
      have hw3 : w = 1 ∨ w = 2 ∨ w = 3 := by omega
      unfold fX7_set
      rcases hw3 with rfl | rfl | rfl
      · rw [mop1, bnd_s, within_s, bnd_s, tb_if, if_pos (show nI 1 = (1 : Int32) by decide), in_k fu c 0 255 0 255 (by decide) (by decide), bnd_s]
        by_cases hc : (0 : Int32) ≤ c ∧ c ≤ 255
        · obtain ⟨v, hv, rfl⟩ := rngL (n := 255) hc.1 hc.2 (by decide)
          rw [if_pos hc, rop1, bnd_s, if_neg (by decide), if_pos rfl, ald8 (by omega), in8 (by omega), nI_clamp (by omega), q2]
          unfold tb
          rw [if_pos hc, myes]
          exact ⟨_, _, _, _, rfl, rfl, JJ_u hJ (RP_uDeeds hR (by omega) _) (IS_deeds hI hv)⟩
        · unfold tb
          rw [if_neg hc, if_neg hc, mno0]; exact fin
      · rw [mop2, bnd_s, within_s, bnd_s, tb_if, if_neg (show ¬ nI 2 = (1 : Int32) by decide), if_pos (show nI 2 = (2 : Int32) by decide), isPerson_s, bnd_s, hR.1]
        by_cases hc : (0 : Int32) ≤ c ∧ c ≤ mgS t 0 - 1
        · obtain ⟨v, hv, rfl⟩ := rngP hI hc
          rw [if_pos hc, rop2, bnd_s, if_neg (by decide), if_neg (by decide), if_pos rfl, ald8 (by omega), in8 (by omega), nI_clamp (by omega), q3]
          unfold tb
          rw [if_pos hc, myes]
          exact ⟨_, _, _, _, rfl, rfl, JJ_u hJ (RP_uSteps hR (by omega) _) (IS_step hI hv)⟩
        · unfold tb
          rw [if_neg hc, if_neg hc, mno0]; exact fin
      · rw [mop3, bnd_s, within_s, bnd_s, tb_if, if_neg (show ¬ nI 3 = (1 : Int32) by decide), if_neg (show ¬ nI 3 = (2 : Int32) by decide), if_pos (show nI 3 = (3 : Int32) by decide), in_k fu c 0 9 0 9 (by decide) (by decide), bnd_s, tb_if]
        by_cases hc : (0 : Int32) ≤ c ∧ c ≤ 9
        · obtain ⟨v, hv, rfl⟩ := rngL (n := 9) hc.1 hc.2 (by decide)
          rw [if_pos hc, if_pos hc, rop3, bnd_s, if_neg (by decide), if_neg (by decide), if_neg (by decide), if_pos rfl, ald8 (by omega), in8 (by omega), nI_clamp (by omega), q4, myes]
          exact ⟨_, _, _, _, rfl, rfl, JJ_u hJ (RP_uAsked hR (by omega) _) (IS_asked hI hv)⟩
        · rw [if_neg hc, if_neg hc, mno0]; exact fin
    · rw [if_neg hb]
      unfold fX7_set
      rw [if_neg (fun e => hb (by subst e; decide)), if_neg (fun e => hb (by subst e; decide)), if_neg (fun e => hb (by subst e; decide)), mno0]
      exact fin
  · rw [if_neg ha]
    have e : fX7_set fu t a b c = fX7_set_b80 fu t := by
      unfold fX7_set
      rw [in_k fu c 0 255 0 255 (by decide) (by decide), isPerson_s, in_k fu c 0 9 0 9 (by decide) (by decide), bnd_s, bnd_s, bnd_s, mno ha, mno ha, mno ha, mno ha]
      split
      · rfl
      · split
        · rfl
        · split
          · split <;> rfl
          · rfl
    rw [e]; exact fin
theorem pr_turn {fu : Nat} {g : Int32} {o : SS} {h k : PS} {p : TPS} {s : SHS} {t : MS} (hJ : JJ g o h k p s t) (a b : Int32) : ∃ r o' h' t', fX6_turn fu g o h a b = some (r, o', h') ∧ fX7_turn fu t a b = some (r, t') ∧ JJ g o' h' k p s t' := by
  obtain ⟨hR, hI⟩ := hJ.2.1
  have h8 := hI.1.2
  have fin : ∃ r o' h' t', fX6_turn_b18 fu g o h = some (r, o', h') ∧ fX7_turn_b28 fu t = some (r, t') ∧ JJ g o' h' k p s t' := by
    unfold fX6_turn_b18 fX7_turn_b28
    rw [f6_0, f7_0]
    exact ⟨_, _, _, _, rfl, rfl, JJ_f hJ 0 (by decide)⟩
  unfold fX6_turn fX7_turn
  rw [isThere_s fu hR hI, isPerson_s, bnd_s, bnd_s, tb_if, tb_if]
  by_cases ha : (0 : Int32) ≤ a ∧ a ≤ mgS t 0 - 1
  · rw [if_pos ha, if_pos ha, isKind0, isKind7, bnd_s, bnd_s, tb_if, tb_if]
    obtain ⟨f, hf, rfl⟩ := rngP hI ha
    obtain ⟨q1, q2, q3, q4⟩ := hR.2.2.2.2 f (by omega)
    by_cases hb : (0 : Int32) ≤ b ∧ b ≤ 5
    · rw [if_pos hb, if_pos hb]
      obtain ⟨w, hw, rfl⟩ := rngL (n := 5) hb.1 hb.2 (by decide)
      rw [ald8 (by omega), in8 (by omega), nI_clamp (by omega), spt0 fu (by omega), bnd_s, becomes_s fu t (by omega), bnd_s, q1]
      exact ⟨_, _, _, _, rfl, rfl, JJ_u hJ (RP_uKinds hR (by omega) _) (IS_kind hI hw)⟩
    · rw [if_neg hb, if_neg hb]; exact fin
  · rw [if_neg ha, if_neg ha]; exact fin
theorem under_mono (fu : Nat) (b : Int32) (K K' : Int32 → Int32 → Option Int32) (h : ∀ a b r, K a b = some r → K' a b = some r) (x y r : Int32) (g : fX0_isUnder_b4B fu b K x y = some r) : fX0_isUnder_b4B fu b K' x y = some r := by
  unfold fX0_isUnder_b4B at g ⊢
  split at g
  · rw [if_pos (by assumption)]; exact g
  · rw [if_neg (by assumption)]
    rw [isKind0, bnd_s, tb_if] at g ⊢
    split at g
    · rw [if_pos (by assumption)]
      split at g
      · rw [if_pos (by assumption)]; exact g
      · rw [if_neg (by assumption)]
        obtain ⟨z, e⟩ := g_in_some g
        unfold g_ald g_in
        rw [if_neg z]
        exact h _ _ _ e
    · rw [if_neg (by assumption)]; exact g
theorem under_d : ∀ a, a < 6 → ∀ b, b < 6 → g_lp (fun _ _ => none) (fX0_isUnder_b4B 0 (nI b)) 10 (nI a) 0 = some (tb (b = 0 ∨ a = b ∨ (3 < a ∧ a - 3 = b))) ∧ fX7_isUnder 0 (nI a) (nI b) = some (tb (b = 0 ∨ a = b ∨ (3 < a ∧ a - 3 = b))) := by decide +kernel
theorem under_s {fu : Nat} (hF : 10 ≤ fu) {a b : Nat} (ha : a < 6) (hb : b < 6) : fX0_isUnder fu (nI a) (nI b) = some (tb (b = 0 ∨ a = b ∨ (3 < a ∧ a - 3 = b))) :=
  lp_mono2 (F := fX0_isUnder_b4B fu (nI b)) (under_mono fu (nI b)) 10 fu (nI a) 0 _ hF (under_d a ha b hb).1
theorem pr_as {fu : Nat} (hF : 10 ≤ fu) {g : Int32} {o : SS} {h k : PS} {p : TPS} {s : SHS} {t : MS} (hJ : JJ g o h k p s t) (a b : Int32) : ∃ r o' t', fX6_as fu g o h a b = some (r, o') ∧ fX7_as fu t a b = some (r, t') ∧ JJ g o' h k p s t' := by
  obtain ⟨hR, hI⟩ := hJ.2.1
  have h8 := hI.1.2
  have fin : ∃ r o' t', fX6_as_b18 fu g h o = some (r, o') ∧ fX7_as_b15 fu t = some (r, t') ∧ JJ g o' h k p s t' := by
    unfold fX6_as_b18 fX7_as_b15
    rw [f6_0, f7_0]
    exact ⟨_, _, _, rfl, rfl, JJ_f hJ 0 (by decide)⟩
  unfold fX6_as fX7_as
  rw [isThere_s fu hR hI, isPerson_s, bnd_s, bnd_s, tb_if, tb_if]
  by_cases ha : (0 : Int32) ≤ a ∧ a ≤ mgS t 0 - 1
  · rw [if_pos ha, if_pos ha, isKind0, isKind7, bnd_s, bnd_s, tb_if, tb_if]
    obtain ⟨f, hf, rfl⟩ := rngP hI ha
    obtain ⟨q1, q2, q3, q4⟩ := hR.2.2.2.2 f (by omega)
    obtain ⟨d1, d2, d3, d4⟩ := hI.2.2.2.2.2.2 f hf
    have hd1 := d1.2
    by_cases hb : (0 : Int32) ≤ b ∧ b ≤ 5
    · rw [if_pos hb, if_pos hb]
      obtain ⟨w, hw, rfl⟩ := rngL (n := 5) hb.1 hb.2 (by decide)
      have u7 : fX7_isUnder fu (nI (vv (mgS t) (21 + 4 * f + 0))) (nI w) = some (tb (w = 0 ∨ vv (mgS t) (21 + 4 * f + 0) = w ∨ (3 < vv (mgS t) (21 + 4 * f + 0) ∧ vv (mgS t) (21 + 4 * f + 0) - 3 = w))) := (under_d _ (by omega) w (by omega)).2
      rw [ald8 (by omega), q1, d1.1, under_s hF (by omega) (by omega), bnd_s, tb_if, its0 fu t (by omega), bnd_s, d1.1, u7, bnd_s, tb_if]
      by_cases hu : w = 0 ∨ vv (mgS t) (21 + 4 * f + 0) = w ∨ (3 < vv (mgS t) (21 + 4 * f + 0) ∧ vv (mgS t) (21 + 4 * f + 0) - 3 = w)
      · rw [if_pos hu, if_pos hu, ald8 (by omega), its1 fu t (by omega), bnd_s, q2]
        exact ⟨_, _, _, rfl, rfl, hJ⟩
      · rw [if_neg hu, if_neg hu, f6_2, f7_2]
        exact ⟨_, _, _, rfl, rfl, JJ_f hJ 2 (by decide)⟩
    · rw [if_neg hb, if_neg hb]; exact fin
  · rw [if_neg ha, if_neg ha]; exact fin
theorem or_d : ∀ d, d < 256 → ∀ e, e < 8 → nI d ||| ((1 : Int32) <<< (nI e &&& (31 : Int32))) = nI (d ||| 2 ^ e) ∧ (d ||| 2 ^ e) ≤ 255 := by decide +kernel
theorem pr_does {fu : Nat} (hF : 10 ≤ fu) {g : Int32} {o : SS} {h k : PS} {p : TPS} {s : SHS} {t : MS} (hJ : JJ g o h k p s t) (a b : Int32) : ∃ r o' h' t', fX6_does fu g o h a b = some (r, o', h') ∧ fX7_does fu t a b = some (r, t') ∧ JJ g o' h' k p s t' := by
  obtain ⟨hR, hI⟩ := hJ.2.1
  have h8 := hI.1.2
  have fin : ∃ r o' h' t', fX6_does_b21 fu g o h = some (r, o', h') ∧ fX7_does_b20 fu t = some (r, t') ∧ JJ g o' h' k p s t' := by
    unfold fX6_does_b21 fX7_does_b20
    rw [f6_0, f7_0]
    exact ⟨_, _, _, _, rfl, rfl, JJ_f hJ 0 (by decide)⟩
  unfold fX6_does fX7_does
  rw [isThere_s fu hR hI, isPerson_s, bnd_s, bnd_s, tb_if, tb_if]
  by_cases ha : (0 : Int32) ≤ a ∧ a ≤ mgS t 0 - 1
  · rw [if_pos ha, if_pos ha, within_s, bnd_s, tb_if, in_k fu b 0 7 0 7 (by decide) (by decide), bnd_s, tb_if]
    obtain ⟨f, hf, rfl⟩ := rngP hI ha
    obtain ⟨q1, q2, q3, q4⟩ := hR.2.2.2.2 f (by omega)
    obtain ⟨d1, d2, d3, d4⟩ := hI.2.2.2.2.2.2 f hf
    have hd2 := d2.2
    by_cases hb : (0 : Int32) ≤ b ∧ b ≤ 7
    · obtain ⟨w, hw, rfl⟩ := rngL (n := 7) hb.1 hb.2 (by decide)
      obtain ⟨e1, e2⟩ := or_d (vv (mgS t) (21 + 4 * f + 1)) (by omega) w (by omega)
      have r1 := RP_uDeeds hR (q := f) (by omega) (nI (vv (mgS t) (21 + 4 * f + 1) ||| 2 ^ w))
      have r2 : IS (upd (mgS t) (21 + 4 * f + 1) (nI (vv (mgS t) (21 + 4 * f + 1) ||| 2 ^ w))) := IS_deeds hI e2
      have e0 : vv (upd (mgS t) (21 + 4 * f + 1) (nI (vv (mgS t) (21 + 4 * f + 1) ||| 2 ^ w))) 0 = vv (mgS t) 0 := vv_un _ _ (by omega)
      rw [if_pos hb, if_pos hb, ald8 (by omega), in8 (by omega), nI_clamp (by omega), q2, spt1 fu (by omega), bnd_s, ald53 (by omega), in53 (by omega), nI_clamp (by omega), d2.1, e1, deservedBy_s fu r1 r2 (by omega), bnd_s, deservesP_s hF (muS t (21 + 4 * f + 1) (nI (vv (mgS t) (21 + 4 * f + 1) ||| 2 ^ w))) r2 (by rw [mgS_u, e0]; exact hf), bnd_s]
      exact ⟨_, _, _, _, rfl, rfl, JJ_u hJ r1 r2⟩
    · rw [if_neg hb, if_neg hb]; exact fin
  · rw [if_neg ha, if_neg ha]; exact fin
theorem pr_pull {fu : Nat} (hF : 10 ≤ fu) {g : Int32} {o : SS} {h k : PS} {p : TPS} {s : SHS} {t : MS} (hJ : JJ g o h k p s t) (a b : Int32) : ∃ r o' h' t', fX6_pull fu g o h a b = some (r, o', h') ∧ fX7_pull fu t a b = some (r, t') ∧ JJ g o' h' k p s t' := by
  obtain ⟨hR, hI⟩ := hJ.2.1
  have h8 := hI.1.2
  have fin : ∃ r o' h' t', fX6_pull_b18 fu g o h = some (r, o', h') ∧ fX7_pull_b24 fu t = some (r, t') ∧ JJ g o' h' k p s t' := by
    unfold fX6_pull_b18 fX7_pull_b24
    rw [f6_0, f7_0]
    exact ⟨_, _, _, _, rfl, rfl, JJ_f hJ 0 (by decide)⟩
  unfold fX6_pull fX7_pull
  rw [isThere_s fu hR hI, isPerson_s, bnd_s, bnd_s, tb_if, tb_if]
  by_cases ha : (0 : Int32) ≤ a ∧ a ≤ mgS t 0 - 1
  · rw [if_pos ha, if_pos ha, isFarm6, isFarm7, bnd_s, bnd_s, tb_if, tb_if]
    obtain ⟨f, hf, rfl⟩ := rngP hI ha
    by_cases hb : (0 : Int32) ≤ b ∧ b ≤ 3
    · obtain ⟨w, hw, rfl⟩ := rngL (n := 3) hb.1 hb.2 (by decide)
      obtain ⟨x', e1, e2, e3⟩ := draw_s fu hR hI hf (f := w) (by omega)
      rw [if_pos hb, if_pos hb, e1, bnd_s, pulls_s hF t hI hf (by omega), bnd_s]
      exact ⟨_, _, _, _, rfl, rfl, JJ_S hJ e2 (IS_pul hI hf (by omega))⟩
    · rw [if_neg hb, if_neg hb]; exact fin
  · rw [if_neg ha, if_neg ha]; exact fin
theorem pr_tear {fu : Nat} {g : Int32} {o : SS} {h k : PS} {p : TPS} {s : SHS} {t : MS} (hJ : JJ g o h k p s t) : ∃ r g' t', fX6_tear fu g = some (r, g') ∧ fX7_tear fu t = some (r, t') ∧ JJ g' o h k p s t' := by
  unfold fX6_tear fX7_tear
  rcases hJ.2.2.1 with ⟨h1, h2⟩ | ⟨h1, h2, h3⟩
  · rw [h1, h2, if_pos rfl, if_pos rfl, z_0, z_0]
    exact ⟨_, _, _, rfl, rfl, hJ.1, hJ.2.1, Or.inl ⟨rfl, rfl⟩, hJ.2.2.2.1, hJ.2.2.2.2⟩
  · rw [h1, h2, if_neg (by decide), if_neg (by decide), z_0, z_0]
    exact ⟨_, _, _, rfl, rfl, hJ.1, hJ.2.1, Or.inl ⟨rfl, rfl⟩, hJ.2.2.2.1, hJ.2.2.2.2⟩
theorem pr_wipe {fu : Nat} {g : Int32} {o : SS} {h k : PS} {p : TPS} {s : SHS} {t : MS} (hJ : JJ g o h k p s t) : ∃ r p' t', fX6_wipe fu g p = some (r, p') ∧ fX7_wipe fu t = some (r, t') ∧ JJ g o h k p' s t' := by
  unfold fX6_wipe fX7_wipe
  obtain ⟨n, h1, h2, h3, h4⟩ := hJ.2.2.2.1
  rw [nm_s, nm_s, h2, h3]
  exact ⟨_, _, _, rfl, rfl, hJ.1, hJ.2.1, hJ.2.2.1, ⟨0, by omega, rfl, rfl, fun j hj => absurd hj (by omega)⟩, hJ.2.2.2.2⟩
