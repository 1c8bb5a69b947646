/-! the class's state and the reference's, side by side -/
def J1 (o : SS) (t : MS) : Prop := ∀ i, i < 7 → o i = mgStatuses t i
def J2 (h : PS) (t : MS) : Prop := RP h (mgS t) ∧ IS (mgS t)
def J3 (g : Int32) (k : PS) (t : MS) : Prop := (g = 0 ∧ mgIsKept t = 0) ∨ (g = 1 ∧ mgIsKept t = 1 ∧ RP k (mgKeptS t) ∧ IS (mgKeptS t))
def J4 (p : TPS) (t : MS) : Prop := ∃ n, n ≤ 120 ∧ tgLength p = nI n ∧ mgTaped t = nI n ∧ ∀ j, j < n → tgBytes p j = mgTape t j ∧ ∃ b, b < 256 ∧ mgTape t j = nI b
def J5 (s : SHS) (t : MS) : Prop := ∀ k, k < 4 → sgBits s k = mgBitsOf t k ∧ sgSize s k = mgSizeOf t k ∧ (sgBits s k = 0 ∨ sgBits s k = 8 ∨ sgBits s k = 16 ∨ sgBits s k = 64) ∧ (∃ n, n ≤ 40 ∧ sgSize s k = nI n) ∧ ∀ i, i < 40 → sgNumbers s k i = mgNumbers t (40 * k + i)
def JJ (g : Int32) (o : SS) (h k : PS) (p : TPS) (s : SHS) (t : MS) : Prop := J1 o t ∧ J2 h t ∧ J3 g k t ∧ J4 p t ∧ J5 s t
/-! findings -/
def foN (o : SS) (w : Nat) : SS := upd o w (o w + 1)
def ftN (t : MS) (w : Nat) : MS := muStatuses t w (mgStatuses t w + 1)
theorem in7 {ρ : Type} {k : Nat} {K : Option ρ} (hk : k < 7) : g_in (nI k) 7 K = K := in_nI hk (by decide)
theorem ald7 {ρ : Type} {f : Nat → Int32} {k : Nat} {K : Int32 → Option ρ} (hk : k < 7) : g_ald f 7 (nI k) K = K (f k) := ald_nI hk (by decide)
theorem fnd6 (fu : Nat) (g : Int32) (o : SS) {w : Nat} (hw : w < 7) : fX6_finding fu g o (nI w) = some ((-1000000001 : Int32) - nI w, foN o w) := by
  unfold fX6_finding
  rw [ald7 hw, in7 hw, nI_clamp (by omega)]
  rfl
theorem fnd_d : ∀ w, w < 7 → (-1000000001 : Int32) - ((-1000000001 : Int32) - nI w) = nI w := by decide
theorem fnd7 (fu : Nat) (t : MS) {w : Nat} (hw : w < 7) : fX7_finds fu t ((-1000000001 : Int32) - nI w) = some ((-1000000001 : Int32) - nI w, ftN t w) := by
  unfold fX7_finds
  rw [fnd_d w hw, ald7 hw, in7 hw, nI_clamp (by omega)]
  rfl
theorem fc0 : (-1000000001 : Int32) - nI 0 = -1000000001 := by decide
theorem fc1 : (-1000000001 : Int32) - nI 1 = -1000000002 := by decide
theorem fc2 : (-1000000001 : Int32) - nI 2 = -1000000003 := by decide
theorem fc3 : (-1000000001 : Int32) - nI 3 = -1000000004 := by decide
theorem fc4 : (-1000000001 : Int32) - nI 4 = -1000000005 := by decide
theorem fc5 : (-1000000001 : Int32) - nI 5 = -1000000006 := by decide
theorem fc6 : (-1000000001 : Int32) - nI 6 = -1000000007 := by decide
theorem f6_0 (fu : Nat) (g : Int32) (o : SS) : fX6_finding fu g o (0 : Int32) = some ((-1000000001 : Int32), foN o 0) := (fnd6 fu g o (w := 0) (by decide)).trans (by rw [fc0])
theorem f6_1 (fu : Nat) (g : Int32) (o : SS) : fX6_finding fu g o (1 : Int32) = some ((-1000000002 : Int32), foN o 1) := (fnd6 fu g o (w := 1) (by decide)).trans (by rw [fc1])
theorem f6_2 (fu : Nat) (g : Int32) (o : SS) : fX6_finding fu g o (2 : Int32) = some ((-1000000003 : Int32), foN o 2) := (fnd6 fu g o (w := 2) (by decide)).trans (by rw [fc2])
theorem f6_3 (fu : Nat) (g : Int32) (o : SS) : fX6_finding fu g o (3 : Int32) = some ((-1000000004 : Int32), foN o 3) := (fnd6 fu g o (w := 3) (by decide)).trans (by rw [fc3])
theorem f6_4 (fu : Nat) (g : Int32) (o : SS) : fX6_finding fu g o (4 : Int32) = some ((-1000000005 : Int32), foN o 4) := (fnd6 fu g o (w := 4) (by decide)).trans (by rw [fc4])
theorem f6_5 (fu : Nat) (g : Int32) (o : SS) : fX6_finding fu g o (5 : Int32) = some ((-1000000006 : Int32), foN o 5) := (fnd6 fu g o (w := 5) (by decide)).trans (by rw [fc5])
theorem f6_6 (fu : Nat) (g : Int32) (o : SS) : fX6_finding fu g o (6 : Int32) = some ((-1000000007 : Int32), foN o 6) := (fnd6 fu g o (w := 6) (by decide)).trans (by rw [fc6])
theorem f7_0 (fu : Nat) (t : MS) : fX7_finds fu t (-1000000001 : Int32) = some ((-1000000001 : Int32), ftN t 0) := by have := fnd7 fu t (w := 0) (by decide); rw [fc0] at this; exact this
theorem f7_1 (fu : Nat) (t : MS) : fX7_finds fu t (-1000000002 : Int32) = some ((-1000000002 : Int32), ftN t 1) := by have := fnd7 fu t (w := 1) (by decide); rw [fc1] at this; exact this
theorem f7_2 (fu : Nat) (t : MS) : fX7_finds fu t (-1000000003 : Int32) = some ((-1000000003 : Int32), ftN t 2) := by have := fnd7 fu t (w := 2) (by decide); rw [fc2] at this; exact this
theorem f7_3 (fu : Nat) (t : MS) : fX7_finds fu t (-1000000004 : Int32) = some ((-1000000004 : Int32), ftN t 3) := by have := fnd7 fu t (w := 3) (by decide); rw [fc3] at this; exact this
theorem f7_4 (fu : Nat) (t : MS) : fX7_finds fu t (-1000000005 : Int32) = some ((-1000000005 : Int32), ftN t 4) := by have := fnd7 fu t (w := 4) (by decide); rw [fc4] at this; exact this
theorem f7_5 (fu : Nat) (t : MS) : fX7_finds fu t (-1000000006 : Int32) = some ((-1000000006 : Int32), ftN t 5) := by have := fnd7 fu t (w := 5) (by decide); rw [fc5] at this; exact this
theorem f7_6 (fu : Nat) (t : MS) : fX7_finds fu t (-1000000007 : Int32) = some ((-1000000007 : Int32), ftN t 6) := by have := fnd7 fu t (w := 6) (by decide); rw [fc6] at this; exact this
theorem J1_f {o : SS} {t : MS} (h : J1 o t) (w : Nat) (hw : w < 7) : J1 (foN o w) (ftN t w) := by
  intro i hi
  show upd o w (o w + 1) i = upd (mgStatuses t) w (mgStatuses t w + 1) i
  unfold upd
  split
  · rw [h w hw]
  · exact h i hi
theorem JJ_f {g : Int32} {o : SS} {h k : PS} {p : TPS} {s : SHS} {t : MS} (hJ : JJ g o h k p s t) (w : Nat) (hw : w < 7) : JJ g (foN o w) h k p s (ftN t w) := ⟨J1_f hJ.1 w hw, hJ.2.1, hJ.2.2.1, hJ.2.2.2.1, hJ.2.2.2.2⟩
theorem JJ_S {g : Int32} {o : SS} {h k : PS} {p : TPS} {s : SHS} {t : MS} (hJ : JJ g o h k p s t) {h' : PS} {s' : SS} (h1 : RP h' s') (h2 : IS s') : JJ g o h' k p s (msS t s') := ⟨hJ.1, ⟨h1, h2⟩, hJ.2.2.1, hJ.2.2.2.1, hJ.2.2.2.2⟩
/-! tests -/
theorem isFarm6 (fu : Nat) (x : Int32) : fX6_isFarm fu x = some (tb ((0 : Int32) ≤ x ∧ x ≤ 3)) := by
  unfold fX6_isFarm
  rw [within_s, bnd_s, z_tb]
theorem in_k (fu : Nat) (x : Int32) (a b : Int64) (lo hi : Int32) (h1 : a = lo.toInt64) (h2 : b = hi.toInt64) : fX7_in fu x.toInt64 a b = some (tb (lo ≤ x ∧ x ≤ hi)) := by
  rw [h1, h2]; exact in_s fu x lo hi
theorem isFarm7 (fu : Nat) (x : Int32) : fX7_isFarm fu x = some (tb ((0 : Int32) ≤ x ∧ x ≤ 3)) := by
  unfold fX7_isFarm
  rw [in_k fu x 0 3 0 3 (by decide) (by decide), bnd_s, z_tb]
theorem isKind7 (fu : Nat) (x : Int32) : fX7_isKind fu x = some (tb ((0 : Int32) ≤ x ∧ x ≤ 5)) := by
  unfold fX7_isKind
  rw [in_k fu x 0 5 0 5 (by decide) (by decide), bnd_s, z_tb]
theorem le_pred {x : Int32} {n : Nat} (hn : n < 2 ^ 31) : (x ≤ nI n - 1) ↔ x < nI n := by
  have h1 : (nI n - 1).toInt = (n : Int) - 1 := by
    rcases n with _ | n
    · decide
    · have : nI (n + 1) - (1 : Int32) = nI n := pk_sub (a := n + 1) (b := 1) (by omega)
      rw [this, nI_toInt (by omega)]
      omega
  rw [Int32.le_iff_toInt_le, Int32.lt_iff_toInt_lt, h1, nI_toInt hn]
  omega
theorem isKind0 (fu : Nat) (x : Int32) : fX0_isKind fu x = some (tb ((0 : Int32) ≤ x ∧ x ≤ 5)) := by
  unfold fX0_isKind tb
  by_cases h1 : x < 0
  · rw [if_pos h1, z_0, if_neg (fun h => absurd h.1 (Int32.not_le.mpr h1))]
  · rw [if_neg h1]
    have h5 : (x ≤ 5) ↔ x < (6 : Int32) := le_pred (n := 6) (by decide)
    by_cases h2 : (6 : Int32) ≤ x
    · rw [if_pos h2, z_0, if_neg (fun h => absurd (h5.mp h.2) (Int32.not_lt.mpr h2))]
    · rw [if_neg h2, z_1, if_pos ⟨Int32.not_lt.mp h1, h5.mpr (Int32.not_le.mp h2)⟩]
theorem isThere_s (fu : Nat) {x : PS} {s : SS} (h : RP x s) (hI : IS s) (a : Int32) : fX1_isThere fu x a = some (tb ((0 : Int32) ≤ a ∧ a ≤ s 0 - 1)) := by
  have h8 := hI.1.2
  unfold fX1_isThere tb
  by_cases h1 : a < 0
  · rw [if_pos h1, z_0, if_neg (fun h => absurd h.1 (Int32.not_le.mpr h1))]
  · rw [if_neg h1, h.1, hI.1.1]
    have h5 : (a ≤ nI (vv s 0) - 1) ↔ a < nI (vv s 0) := le_pred (by omega)
    by_cases h2 : nI (vv s 0) ≤ a
    · rw [if_pos h2, z_0, if_neg (fun h => absurd (h5.mp h.2) (Int32.not_lt.mpr h2))]
    · rw [if_neg h2, z_1, if_pos ⟨Int32.not_lt.mp h1, h5.mpr (Int32.not_le.mp h2)⟩]
theorem isPerson_s (fu : Nat) (t : MS) (a : Int32) : fX7_isPerson fu t a = some (tb ((0 : Int32) ≤ a ∧ a ≤ mgS t 0 - 1)) := by
  unfold fX7_isPerson
  rw [a53_0, in_k fu a 0 _ 0 (mgS t 0 - 1) (by decide) rfl, bnd_s, z_tb]
theorem rngP {s : SS} (hI : IS s) {a : Int32} (h : (0 : Int32) ≤ a ∧ a ≤ s 0 - 1) : ∃ p, p < vv s 0 ∧ a = nI p := by
  have h8 := hI.1.2
  have h2 := h.2
  rw [hI.1.1] at h2
  exact rng h.1 ((le_pred (by omega)).mp h2) (by omega)
theorem becomes_s (fu : Nat) (t : MS) {k : Nat} (hk : k < 53) (v : Int32) : fX7_becomes fu t (nI k) v = some (mgS t k, muS t k v) := by
  unfold fX7_becomes
  rw [ald53 hk, in53 hk, nI_clamp (by omega)]
theorem JJ_u {g : Int32} {o : SS} {h k : PS} {p : TPS} {s : SHS} {t : MS} (hJ : JJ g o h k p s t) {h' : PS} {i : Nat} {v : Int32} (h1 : RP h' (upd (mgS t) i v)) (h2 : IS (upd (mgS t) i v)) : JJ g o h' k p s (muS t i v) := JJ_S hJ h1 h2
/-! one more -/
def addN (s : SS) (k : Nat) : SS := upd (upd (upd (upd (upd s (21 + 4 * vv s 0 + 0) (nI k)) (21 + 4 * vv s 0 + 1) (nI 0)) (21 + 4 * vv s 0 + 2) (nI (vv s 0))) (21 + 4 * vv s 0 + 3) (nI 0)) 0 (nI (vv s 0 + 1))
theorem IS_add {s : SS} (hI : IS s) (h8 : vv s 0 < 8) {k : Nat} (hk : k ≤ 5) : IS (addN s k) ∧ vv (addN s k) 0 = vv s 0 + 1 := by
  obtain ⟨h0, h1, h2, h3, h4, h5, h6⟩ := hI
  have e0 : vv (addN s k) 0 = vv s 0 + 1 := by unfold addN; exact vv_us _ _ (by omega)
  have ee : ∀ j, j ≠ 0 → j ≠ 21 + 4 * vv s 0 + 0 → j ≠ 21 + 4 * vv s 0 + 1 → j ≠ 21 + 4 * vv s 0 + 2 → j ≠ 21 + 4 * vv s 0 + 3 → addN s k j = s j := by
    intro j a b c d e
    unfold addN
    rw [pk_un a, pk_un e, pk_un d, pk_un c, pk_un b]
  have ok : ∀ j hi, j ≠ 0 → j ≠ 21 + 4 * vv s 0 + 0 → j ≠ 21 + 4 * vv s 0 + 1 → j ≠ 21 + 4 * vv s 0 + 2 → j ≠ 21 + 4 * vv s 0 + 3 → okv s j hi → okv (addN s k) j hi := by
    intro j hi a b c d e f
    unfold okv vv
    rw [ee j a b c d e]; exact f
  have ev : ∀ j, j ≠ 0 → j ≠ 21 + 4 * vv s 0 + 0 → j ≠ 21 + 4 * vv s 0 + 1 → j ≠ 21 + 4 * vv s 0 + 2 → j ≠ 21 + 4 * vv s 0 + 3 → vv (addN s k) j = vv s j := by
    intro j a b c d e
    unfold vv
    rw [ee j a b c d e]
  refine ⟨⟨?_, trivial, ok _ _ (by omega) (by omega) (by omega) (by omega) (by omega) h2, ok _ _ (by omega) (by omega) (by omega) (by omega) (by omega) h3, ok _ _ (by omega) (by omega) (by omega) (by omega) (by omega) h4, fun f hf => ?_, fun p hp => ?_⟩, e0⟩
  · unfold addN; exact ok_us _ _ (by omega) (by decide)
  · obtain ⟨a, b, c, d⟩ := h5 f hf
    refine ⟨ok _ _ (by omega) (by omega) (by omega) (by omega) (by omega) a, ok _ _ (by omega) (by omega) (by omega) (by omega) (by omega) b, ok _ _ (by omega) (by omega) (by omega) (by omega) (by omega) c, ?_⟩
    rcases d with d | ⟨d1, d2⟩
    · exact Or.inl (by rw [ee _ (by omega) (by omega) (by omega) (by omega) (by omega)]; exact d)
    · exact Or.inr ⟨ok _ _ (by omega) (by omega) (by omega) (by omega) (by omega) d1, by rw [ev _ (by omega) (by omega) (by omega) (by omega) (by omega), e0]; omega⟩
  · rw [e0] at hp
    by_cases hn : p < vv s 0
    · obtain ⟨a, b, ⟨c1, c2⟩, d⟩ := h6 p hn
      refine ⟨ok _ _ (by omega) (by omega) (by omega) (by omega) (by omega) a, ok _ _ (by omega) (by omega) (by omega) (by omega) (by omega) b, ⟨ok _ _ (by omega) (by omega) (by omega) (by omega) (by omega) c1, by rw [ev _ (by omega) (by omega) (by omega) (by omega) (by omega), e0]; omega⟩, ok _ _ (by omega) (by omega) (by omega) (by omega) (by omega) d⟩
    · have hp2 : p = vv s 0 := by omega
      subst hp2
      unfold addN
      refine ⟨ok_un _ _ (by omega) (ok_un _ _ (by omega) (ok_un _ _ (by omega) (ok_un _ _ (by omega) (ok_us _ _ hk (by decide))))), ok_un _ _ (by omega) (ok_un _ _ (by omega) (ok_un _ _ (by omega) (ok_us _ _ (by omega) (by decide)))), ⟨ok_un _ _ (by omega) (ok_un _ _ (by omega) (ok_us _ _ (by omega) (by decide))), ?_⟩, ok_un _ _ (by omega) (ok_us _ _ (by omega) (by decide))⟩
      rw [vv_un _ _ (by omega), vv_un _ _ (by omega), vv_us _ _ (by omega), vv_us _ _ (by omega)]
      omega
theorem adds_s (fu : Nat) (t : MS) (hI : IS (mgS t)) (h8 : vv (mgS t) 0 < 8) (k : Nat) : fX7_adds fu t (nI k) = some (nI (vv (mgS t) 0), msS t (addN (mgS t) k)) := by
  unfold fX7_adds
  rw [a53_0, hI.1.1, spt0 fu h8, bnd_s, in53 (by omega), spt1 fu h8, bnd_s, in53 (by omega), spt2 fu h8, bnd_s, in53 (by omega), spt3 fu h8, bnd_s, in53 (by omega), a53_0, i53_0, nI_clamp (by omega), nI_clamp (by omega), nI_clamp (by omega), nI_clamp (by omega), cl0, mgS_u, mgS_u, mgS_u, mgS_u, pk_un (by omega), pk_un (by omega), pk_un (by omega), pk_un (by omega), hI.1.1, nI_1]
  rfl
theorem addPerson_s (fu : Nat) {x : PS} {s : SS} (h : RP x s) (hI : IS s) (h8 : vv s 0 < 8) (k : Nat) : ∃ x', fX1_addPerson fu x (nI k) = some (nI (vv s 0), x') ∧ RP x' (addN s k) := by
  unfold fX1_addPerson
  rw [h.1, hI.1.1, if_pos (show nI (vv s 0) < (8 : Int32) from nI_lt (b := 8) h8 (by decide)), nm_s, in8 h8, in8 h8, in8 h8, in8 h8, nI_clamp (by omega)]
  refine ⟨_, rfl, ?_⟩
  have e : pgPeople (puAsked (puSteps (puDeeds (puKinds x (vv s 0) (nI k)) (vv s 0) (0 : Int32)) (vv s 0) (nI (vv s 0))) (vv s 0) (0 : Int32)) = nI (vv s 0) := by
    show pgPeople x = _
    rw [h.1]; exact hI.1.1
  rw [e, nI_1]
  exact RP_sPeople (RP_uAsked (RP_uSteps (RP_uDeeds (RP_uKinds h h8 _) h8 _) h8 _) h8 _) _
