/-! a day -/
theorem upd_cm (s : SS) {i j : Nat} (a b : Int32) (h : i ≠ j) : upd (upd s i a) j b = upd (upd s j b) i a := by
  funext k
  unfold upd
  by_cases h1 : k = j
  · subst h1
    rw [if_pos rfl, if_neg (fun e => h e.symm), if_pos rfl]
  · rw [if_neg h1]
    by_cases h2 : k = i
    · rw [if_pos h2, if_pos h2]
    · rw [if_neg h2, if_neg h2, if_neg h1]
theorem upd_id (s : SS) (i : Nat) {a : Int32} (h : s i = a) : upd s i a = s := by
  funext k
  unfold upd
  by_cases h1 : k = i
  · subst h1; rw [if_pos rfl, h]
  · rw [if_neg h1]
def dryF (s : SS) (f : Nat) : Prop := vv s (5 + 4 * f + 1) < vv s (5 + 4 * f + 0)
def useN (s : SS) (f : Nat) : SS := if vv s (5 + 4 * f + 1) < vv s (5 + 4 * f + 0) then upd (upd s (5 + 4 * f + 1) (nI 0)) (5 + 4 * f + 2) (nI (min 9999 (vv s (5 + 4 * f + 2) + 1))) else upd s (5 + 4 * f + 1) (nI (vv s (5 + 4 * f + 1) - vv s (5 + 4 * f + 0)))
def useD (s : SS) (f : Nat) (d : Int32) : Int32 := if vv s (5 + 4 * f + 1) < vv s (5 + 4 * f + 0) then d ||| ((1 : Int32) <<< (nI f &&& (31 : Int32))) else d
theorem IS_use {s : SS} (hI : IS s) {f : Nat} (hf : f < 4) : IS (useN s f) := by
  obtain ⟨fa, fb, fc, fd⟩ := hI.2.2.2.2.2.1 f hf
  unfold useN
  split
  · exact IS_thirst (IS_store hI hf (by omega)) hf (Nat.min_le_left _ _)
  · exact IS_store hI hf (by have := fb.2; omega)
theorem vv0_use (s : SS) (f : Nat) : vv (useN s f) 0 = vv s 0 := by
  unfold useN
  split
  · rw [vv_un _ _ (by omega), vv_un _ _ (by omega)]
  · rw [vv_un _ _ (by omega)]
theorem vv0_pul (s : SS) (p f : Nat) : vv (pulN s p f) 0 = vv s 0 := by
  unfold pulN
  rw [vv_un _ _ (by omega), vv_un _ _ (by omega), vv_un _ _ (by omega)]
theorem or_0 (d : Int32) : d ||| (0 : Int32) = d := by
  apply Int32.toBitVec_inj.mp
  show d.toBitVec ||| 0 = d.toBitVec
  simp
theorem uses_s (fu : Nat) (t : MS) (hI : IS (mgS t)) {f : Nat} (hf : f < 4) : fX7_uses fu t (nI f) = some (msDryNow (msS t (useN (mgS t) f)) (useD (mgS t) f (mgDryNow t))) := by
  obtain ⟨fa, fb, fc, fd⟩ := hI.2.2.2.2.2.1 f hf
  have ha := fa.2
  have hb := fb.2
  have hc := fc.2
  unfold fX7_uses
  rw [fld1 fu hf, bnd_s, ald53 (by omega), fld0 fu hf, bnd_s, ald53 (by omega), fa.1, fb.1]
  by_cases h : vv (mgS t) (5 + 4 * f + 1) < vv (mgS t) (5 + 4 * f + 0)
  · rw [if_neg (nI_ge h (by omega))]
    unfold fX7_uses_b28
    rw [fld1 fu hf, bnd_s, if_neg (by decide)]
    unfold fX7_uses_b67
    rw [in53 (by omega), fld2 fu hf, bnd_s, ald53 (by omega), if_neg (by decide), bnd_s, ald53 (by omega), nI_clamp (by omega)]
    have r1 : mgS (muS t (5 + 4 * f + 1) (0 : Int32)) (5 + 4 * f + 2) = nI (vv (mgS t) (5 + 4 * f + 2)) := by
      rw [mgS_u, pk_un (by omega)]; exact fc.1
    rw [r1]
    have fin : ∀ y : Int32, nI (vv (mgS t) (5 + 4 * f + 2)) + y = nI (min 9999 (vv (mgS t) (5 + 4 * f + 2) + 1)) → fX7_uses_b104 fu (muS t (5 + 4 * f + 1) (0 : Int32)) (nI f) (1 : Int32) y (nI (vv (mgS t) (5 + 4 * f + 2))) (nI (5 + 4 * f + 2)) = some (msDryNow (msS t (useN (mgS t) f)) (useD (mgS t) f (mgDryNow t))) := by
      intro y hy
      unfold fX7_uses_b104 useN useD
      rw [in53 (by omega), if_neg (by decide), hy, nI_clamp (by omega), if_pos h, if_pos h]
      rfl
    by_cases h9 : 9999 ≤ vv (mgS t) (5 + 4 * f + 2)
    · rw [if_pos (by rw [l9999]; exact nI_le h9 (by omega))]
      refine fin 0 ?_
      rw [show vv (mgS t) (5 + 4 * f + 2) = 9999 by omega]
      rfl
    · rw [if_neg (by rw [l9999]; exact nI_ge (by omega) (by decide))]
      refine fin 1 ?_
      rw [nI_1, Nat.min_eq_right (by omega)]
  · rw [if_pos (nI_le (by omega) (by omega))]
    unfold fX7_uses_b28
    rw [fld1 fu hf, bnd_s, if_pos rfl, bnd_s, ald53 (by omega), fld0 fu hf, bnd_s, ald53 (by omega), fa.1, fb.1, pk_sub (by omega)]
    unfold fX7_uses_b67
    rw [in53 (by omega), fld2 fu hf, bnd_s, ald53 (by omega), if_pos rfl, nI_clamp (by omega)]
    have r1 : mgS (muS t (5 + 4 * f + 1) (nI (vv (mgS t) (5 + 4 * f + 1) - vv (mgS t) (5 + 4 * f + 0)))) (5 + 4 * f + 2) = nI (vv (mgS t) (5 + 4 * f + 2)) := by
      rw [mgS_u, pk_un (by omega)]; exact fc.1
    rw [r1]
    unfold fX7_uses_b104 useN useD
    rw [in53 (by omega), if_pos rfl, nI_clamp (by omega), if_neg h, if_neg h, show nI (vv (mgS t) (5 + 4 * f + 2)) + (0 : Int32) = nI (vv (mgS t) (5 + 4 * f + 2)) from nI_add _ 0]
    have e1 : upd (upd (mgS t) (5 + 4 * f + 1) (nI (vv (mgS t) (5 + 4 * f + 1) - vv (mgS t) (5 + 4 * f + 0)))) (5 + 4 * f + 2) (nI (vv (mgS t) (5 + 4 * f + 2))) = upd (mgS t) (5 + 4 * f + 1) (nI (vv (mgS t) (5 + 4 * f + 1) - vv (mgS t) (5 + 4 * f + 0))) := upd_id _ _ r1
    show some (msDryNow (msS t (upd (upd (mgS t) _ _) _ _)) (mgDryNow t ||| 0)) = _
    rw [e1, or_0]
theorem useNeed_s (fu : Nat) {x : PS} {s : SS} (h : RP x s) (hI : IS s) {f : Nat} (hf : f < 4) : ∃ x', fX1_useNeed fu x (nI f) = some x' ∧ RP x' (useN s f) ∧ pgDryFarms x' = useD s f (pgDryFarms x) := by
  obtain ⟨fa, fb, fc, fd⟩ := hI.2.2.2.2.2.1 f hf
  obtain ⟨r1, r2, r3, r4⟩ := h.2.2.2.1 f hf
  have ha := fa.2
  have hb := fb.2
  have hc := fc.2
  unfold fX1_useNeed useN useD
  rw [ald4 hf, ald4 hf, r1, r2, fa.1, fb.1]
  by_cases e : vv s (5 + 4 * f + 1) < vv s (5 + 4 * f + 0)
  · rw [if_pos (nI_lt e (by omega)), if_pos e, if_pos e, ald4 hf, in4 hf, in4 hf, nI_clamp (by omega)]
    refine ⟨_, rfl, ?_, rfl⟩
    have k1 : pgThirst (psDryFarms x (pgDryFarms x ||| ((1 : Int32) <<< (nI f &&& (31 : Int32))))) f = nI (vv s (5 + 4 * f + 2)) := by
      show pgThirst x f = _
      rw [r3]; exact fc.1
    rw [k1, nI_1, l9999, min_c (by decide) (by omega), upd_cm _ _ _ (by omega)]
    exact RP_uStore (RP_uThirst (RP_sDry h _) hf _) hf _
  · rw [if_neg (nI_nlt (by omega) (by omega)), if_neg e, if_neg e, ald4 hf, ald4 hf, in4 hf, nI_clamp (by omega), r1, r2, fa.1, fb.1, pk_sub (by omega)]
    exact ⟨_, rfl, RP_uStore h hf _, rfl⟩
