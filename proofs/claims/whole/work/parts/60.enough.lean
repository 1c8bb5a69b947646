/-! which farms were dry on a day -/
theorem wdr_d : ∀ m, m < 256 → ∀ f, f < 4 → (((nI m >>> (nI f &&& (31 : Int32))) &&& (1 : Int32)) = (1 : Int32) ↔ m.testBit f = true) := by decide +kernel
theorem vv_useo (c : SS) {g k : Nat} (h1 : k ≠ 5 + 4 * g + 1) (h2 : k ≠ 5 + 4 * g + 2) : vv (useN c g) k = vv c k := by
  unfold useN
  split
  · rw [vv_un _ _ h2, vv_un _ _ h1]
  · rw [vv_un _ _ h1]
theorem dry_useo (c : SS) {g f : Nat} (h : f ≠ g) : dryF (useN c g) f ↔ dryF c f := by
  unfold dryF
  rw [vv_useo c (by omega) (by omega), vv_useo c (by omega) (by omega)]
theorem uD_s {f : Nat} (hf : f < 4) : ∀ (n g : Nat) (c : SS) (m : Nat), m < 256 → g + n ≤ 4 → ∃ m', uD n g c (nI m) = nI m' ∧ m' < 256 ∧ (m'.testBit f = true ↔ (m.testBit f = true ∨ (g ≤ f ∧ f < g + n ∧ dryF c f))) := by
  intro n
  induction n with
  | zero =>
    intro g c m hm _
    refine ⟨m, rfl, hm, Or.inl, ?_⟩
    rintro (h | ⟨h1, h2, h3⟩)
    · exact h
    · omega
  | succ n ih =>
    intro g c m hm hg
    show ∃ m', uD n (g + 1) (useN c g) (useD c g (nI m)) = nI m' ∧ _
    unfold useD
    by_cases hd : vv c (5 + 4 * g + 1) < vv c (5 + 4 * g + 0)
    · obtain ⟨o1, o2⟩ := or_b hm (d := g) (by omega)
      rw [if_pos hd, o1]
      obtain ⟨m', e1, e2, e3⟩ := ih (g + 1) (useN c g) (m ||| 2 ^ g) o2 (by omega)
      refine ⟨m', e1, e2, e3.trans ?_⟩
      rw [tb_or]
      by_cases hgf : f = g
      · subst hgf
        simp
        exact Or.inr hd
      · rw [dry_useo c hgf]
        simp
        constructor
        · rintro ((h | h) | ⟨h1, h2, h3⟩)
          · exact Or.inl h
          · exact absurd h.symm hgf
          · exact Or.inr ⟨by omega, by omega, h3⟩
        · rintro (h | ⟨h1, h2, h3⟩)
          · exact Or.inl (Or.inl h)
          · exact Or.inr ⟨by omega, by omega, h3⟩
    · rw [if_neg hd]
      obtain ⟨m', e1, e2, e3⟩ := ih (g + 1) (useN c g) m hm (by omega)
      refine ⟨m', e1, e2, e3.trans ?_⟩
      by_cases hgf : f = g
      · subst hgf
        constructor
        · rintro (h | ⟨h1, h2, h3⟩)
          · exact Or.inl h
          · omega
        · rintro (h | ⟨h1, h2, h3⟩)
          · exact Or.inl h
          · exact absurd h3 hd
      · rw [dry_useo c hgf]
        constructor
        · rintro (h | ⟨h1, h2, h3⟩)
          · exact Or.inl h
          · exact Or.inr ⟨by omega, by omega, h3⟩
        · rintro (h | ⟨h1, h2, h3⟩)
          · exact Or.inl h
          · exact Or.inr ⟨by omega, by omega, h3⟩
theorem wdr_day (c : SS) {f : Nat} (hf : f < 4) : wdr (dayD c) f ↔ dryF (dA 4 0 c) f := by
  obtain ⟨m', e1, e2, e3⟩ := uD_s hf 4 0 (dA 4 0 c) 0 (by decide) (by omega)
  have e4 : dayD c = nI m' := e1
  unfold wdr
  rw [e4, wdr_d m' e2 f hf, e3]
  constructor
  · rintro (h | ⟨h1, h2, h3⟩)
    · simp at h
    · exact h3
  · intro h
    exact Or.inr ⟨by omega, by omega, h⟩
/-! a farm's store hangs on nothing but itself -/
theorem gP_st (c : SS) {f : Nat} (hf : f < 4) (X : Int32) (p : Nat) : gP (upd c (5 + 4 * f + 1) X) p = gP c p := by
  unfold gP gN gfull
  rw [vv_un _ _ (show 21 + 4 * p + 0 ≠ 5 + 4 * f + 1 by omega), vv_un _ _ (show 21 + 4 * p + 1 ≠ 5 + 4 * f + 1 by omega), vv_un _ _ (show 21 + 4 * p + 2 ≠ 5 + 4 * f + 1 by omega), vv_un _ _ (show 21 + 4 * p + 3 ≠ 5 + 4 * f + 1 by omega), vv_un _ _ (show 4 ≠ 5 + 4 * f + 1 by omega), vv_un _ _ (show 2 ≠ 5 + 4 * f + 1 by omega), vv_un _ _ (by omega), vv_un _ _ (by omega)]
theorem pul_o (c : SS) {f : Nat} (hf : f < 4) (X : Int32) (p : Nat) {g : Nat} (hg : g ≠ f) : pulN (upd c (5 + 4 * f + 1) X) p g = upd (pulN c p g) (5 + 4 * f + 1) X := by
  unfold pulN
  rw [gP_st c hf, vv_un _ _ (show 5 + 4 * g + 1 ≠ 5 + 4 * f + 1 by omega), vv_un _ _ (show 2 ≠ 5 + 4 * f + 1 by omega), vv_un _ _ (show 21 + 4 * p + 3 ≠ 5 + 4 * f + 1 by omega)]
  rw [upd_cm c _ _ (show 5 + 4 * f + 1 ≠ 5 + 4 * g + 1 by omega), upd_cm _ _ _ (show 5 + 4 * f + 1 ≠ 2 by omega), upd_cm _ _ _ (show 5 + 4 * f + 1 ≠ 21 + 4 * p + 3 by omega)]
theorem pul_s (c : SS) {f : Nat} (hf : f < 4) {x : Nat} (p : Nat) (hx : x + gP c p ≤ 9999) : pulN (upd c (5 + 4 * f + 1) (nI x)) p f = upd (pulN c p f) (5 + 4 * f + 1) (nI (x + gP c p)) := by
  unfold pulN
  rw [gP_st c hf, vv_us _ _ (by omega), vv_un _ _ (show 2 ≠ 5 + 4 * f + 1 by omega), vv_un _ _ (show 21 + 4 * p + 3 ≠ 5 + 4 * f + 1 by omega), upd_uu, Nat.min_eq_right hx]
  rw [← upd_cm _ _ _ (show 5 + 4 * f + 1 ≠ 21 + 4 * p + 3 by omega), ← upd_cm _ _ _ (show 5 + 4 * f + 1 ≠ 2 by omega), upd_uu]
theorem stA_sh {c : SS} (hI : IS c) {f : Nat} (hf : f < 4) {g : Nat} (hg : g < 4) : ∃ G, G ≤ 20 ∧ ∀ x, x + 20 ≤ 9999 → stA (upd c (5 + 4 * f + 1) (nI x)) g = upd (stA c g) (5 + 4 * f + 1) (nI (x + G)) := by
  have hs : ∀ X, upd c (5 + 4 * f + 1) X (5 + 4 * g + 3) = c (5 + 4 * g + 3) := fun X => pk_un (by omega)
  have hv : ∀ X, vv (upd c (5 + 4 * f + 1) X) (5 + 4 * g + 3) = vv c (5 + 4 * g + 3) := fun X => vv_un _ _ (by omega)
  unfold stA
  by_cases h1 : c (5 + 4 * g + 3) = -1
  · refine ⟨0, by omega, fun x _ => ?_⟩
    rw [hs, if_pos h1, if_pos h1]
    rfl
  · rcases (hI.2.2.2.2.2.1 g hg).2.2.2 with d | ⟨d1, d2⟩
    · exact absurd d h1
    · have hgp := (gP_le hI d2).1
      by_cases e : g = f
      · subst e
        refine ⟨gP c (vv c (5 + 4 * g + 3)), hgp, fun x hx => ?_⟩
        rw [hs, if_neg h1, if_neg h1, hv, pul_s c hf _ (by omega)]
      · refine ⟨0, by omega, fun x hx => ?_⟩
        rw [hs, if_neg h1, if_neg h1, hv, pul_o c hf _ _ e]
        rfl
theorem dA_sh {f : Nat} (hf : f < 4) : ∀ (n g : Nat) {c : SS}, IS c → g + n ≤ 4 → ∃ G, G ≤ 20 * n ∧ ∀ x, x + 20 * n ≤ 9999 → dA n g (upd c (5 + 4 * f + 1) (nI x)) = upd (dA n g c) (5 + 4 * f + 1) (nI (x + G)) := by
  intro n
  induction n with
  | zero => intro g c _ _; exact ⟨0, by omega, fun x _ => rfl⟩
  | succ n ih =>
    intro g c hI hg
    obtain ⟨G1, h1, h2⟩ := stA_sh hI hf (g := g) (by omega)
    obtain ⟨G2, h3, h4⟩ := ih (g + 1) (IS_stA hI (f := g) (by omega)).1 (by omega)
    refine ⟨G1 + G2, by omega, fun x hx => ?_⟩
    show dA n (g + 1) (stA (upd c (5 + 4 * f + 1) (nI x)) g) = upd (dA n (g + 1) (stA c g)) _ _
    rw [h2 x (by omega), h4 (x + G1) (by omega), Nat.add_assoc x G1 G2]
theorem use_o (c : SS) {f : Nat} (X : Int32) {g : Nat} (hg : g ≠ f) : useN (upd c (5 + 4 * f + 1) X) g = upd (useN c g) (5 + 4 * f + 1) X := by
  unfold useN
  rw [vv_un _ _ (show 5 + 4 * g + 1 ≠ 5 + 4 * f + 1 by omega), vv_un _ _ (show 5 + 4 * g + 0 ≠ 5 + 4 * f + 1 by omega), vv_un _ _ (show 5 + 4 * g + 2 ≠ 5 + 4 * f + 1 by omega)]
  split
  · rw [upd_cm c _ _ (show 5 + 4 * f + 1 ≠ 5 + 4 * g + 1 by omega), upd_cm _ _ _ (show 5 + 4 * f + 1 ≠ 5 + 4 * g + 2 by omega)]
  · rw [upd_cm c _ _ (show 5 + 4 * f + 1 ≠ 5 + 4 * g + 1 by omega)]
theorem use_f (c : SS) {f : Nat} {x : Nat} (hx : x < 2 ^ 31) (h1 : vv c (5 + 4 * f + 0) ≤ x) (h2 : vv c (5 + 4 * f + 0) ≤ vv c (5 + 4 * f + 1)) : useN (upd c (5 + 4 * f + 1) (nI x)) f = upd (useN c f) (5 + 4 * f + 1) (nI (x - vv c (5 + 4 * f + 0))) := by
  unfold useN
  rw [vv_us _ _ hx, vv_un _ _ (show 5 + 4 * f + 0 ≠ 5 + 4 * f + 1 by omega), if_neg (by omega), if_neg (by omega), upd_uu, upd_uu]
theorem uA_o {f : Nat} : ∀ (n g : Nat) (c : SS) (X : Int32), f < g ∨ g + n ≤ f → uA n g (upd c (5 + 4 * f + 1) X) = upd (uA n g c) (5 + 4 * f + 1) X := by
  intro n
  induction n with
  | zero => intro g c X _; rfl
  | succ n ih =>
    intro g c X h
    show uA n (g + 1) (useN (upd c (5 + 4 * f + 1) X) g) = upd (uA n (g + 1) (useN c g)) _ _
    rw [use_o c X (by omega), ih (g + 1) _ X (by omega)]
theorem uA_sh {f : Nat} : ∀ (n g : Nat) (c : SS) (x : Nat), g ≤ f → f < g + n → x < 2 ^ 31 → vv c (5 + 4 * f + 0) ≤ x → vv c (5 + 4 * f + 0) ≤ vv c (5 + 4 * f + 1) → uA n g (upd c (5 + 4 * f + 1) (nI x)) = upd (uA n g c) (5 + 4 * f + 1) (nI (x - vv c (5 + 4 * f + 0))) := by
  intro n
  induction n with
  | zero => intro g c x h1 h2; omega
  | succ n ih =>
    intro g c x h1 h2 hx h3 h4
    show uA n (g + 1) (useN (upd c (5 + 4 * f + 1) (nI x)) g) = upd (uA n (g + 1) (useN c g)) _ _
    by_cases e : g = f
    · subst e
      rw [use_f c hx h3 h4, uA_o n (g + 1) _ _ (by omega)]
    · have v0 : vv (useN c g) (5 + 4 * f + 0) = vv c (5 + 4 * f + 0) := vv_useo c (by omega) (by omega)
      have v1 : vv (useN c g) (5 + 4 * f + 1) = vv c (5 + 4 * f + 1) := vv_useo c (by omega) (by omega)
      rw [use_o c _ e, ih (g + 1) (useN c g) x (by omega) (by omega) hx (by omega) (by omega), v0]
theorem per_o (c : SS) {f : Nat} (hf : f < 4) (X : Int32) (p : Nat) : perN (upd c (5 + 4 * f + 1) X) p = upd (perN c p) (5 + 4 * f + 1) X := by
  unfold perN
  rw [vv_un _ _ (show 21 + 4 * p + 1 ≠ 5 + 4 * f + 1 by omega), upd_cm c _ _ (show 5 + 4 * f + 1 ≠ 21 + 4 * p + 3 by omega), upd_cm _ _ _ (show 5 + 4 * f + 1 ≠ 21 + 4 * p + 1 by omega)]
theorem eA_o {f : Nat} (hf : f < 4) : ∀ (n p : Nat) (c : SS) (X : Int32), eA n p (upd c (5 + 4 * f + 1) X) = upd (eA n p c) (5 + 4 * f + 1) X := by
  intro n
  induction n with
  | zero => intro p c X; rfl
  | succ n ih =>
    intro p c X
    show eA n (p + 1) (perN (upd c (5 + 4 * f + 1) X) p) = upd (eA n (p + 1) (perN c p)) _ _
    rw [per_o c hf, ih]
theorem fin_o (c : SS) (f : Nat) (X : Int32) : finN (upd c (5 + 4 * f + 1) X) = upd (finN c) (5 + 4 * f + 1) X := by
  unfold finN
  rw [vv_un _ _ (show 2 ≠ 5 + 4 * f + 1 by omega), vv_un _ _ (show 3 ≠ 5 + 4 * f + 1 by omega), pk_un (show 1 ≠ 5 + 4 * f + 1 by omega), upd_cm c _ _ (show 5 + 4 * f + 1 ≠ 2 by omega), upd_cm _ _ _ (show 5 + 4 * f + 1 ≠ 1 by omega)]
theorem st_id {c : SS} (hI : IS c) {f : Nat} (hf : f < 4) : upd c (5 + 4 * f + 1) (nI (vv c (5 + 4 * f + 1))) = c := upd_id _ _ (hI.2.2.2.2.2.1 f hf).2.1.1
theorem day_sh {c : SS} (hI : IS c) {f : Nat} (hf : f < 4) (hc : vv c (5 + 4 * f + 1) + 80 ≤ 9999) : ∃ G nd, G ≤ 80 ∧ (∀ x, x ≤ vv c (5 + 4 * f + 1) → ((wdr (dayD (upd c (5 + 4 * f + 1) (nI x))) f ↔ x + G < nd) ∧ (nd ≤ x + G → dayN (upd c (5 + 4 * f + 1) (nI x)) = upd (dayN c) (5 + 4 * f + 1) (nI (x + G - nd))))) ∧ (wdr (dayD c) f ↔ vv c (5 + 4 * f + 1) + G < nd) ∧ (nd ≤ vv c (5 + 4 * f + 1) + G → vv (dayN c) (5 + 4 * f + 1) = vv c (5 + 4 * f + 1) + G - nd) := by
  obtain ⟨G, h1, h2⟩ := dA_sh hf 4 0 hI (by omega)
  have hd := h2 (vv c (5 + 4 * f + 1)) (by omega)
  rw [st_id hI hf] at hd
  have vd : vv (dA 4 0 c) (5 + 4 * f + 1) = vv c (5 + 4 * f + 1) + G := by
    rw [hd, vv_us _ _ (by omega)]
  have key : ∀ x, x ≤ vv c (5 + 4 * f + 1) → ((wdr (dayD (upd c (5 + 4 * f + 1) (nI x))) f ↔ x + G < vv (dA 4 0 c) (5 + 4 * f + 0)) ∧ (vv (dA 4 0 c) (5 + 4 * f + 0) ≤ x + G → dayN (upd c (5 + 4 * f + 1) (nI x)) = upd (dayN c) (5 + 4 * f + 1) (nI (x + G - vv (dA 4 0 c) (5 + 4 * f + 0))))) := by
    intro x hx
    have e1 := h2 x (by omega)
    refine ⟨?_, fun hn => ?_⟩
    · rw [wdr_day _ hf, e1]
      unfold dryF
      rw [vv_us _ _ (by omega), vv_un _ _ (by omega)]
    · unfold dayN
      rw [e1, uA_sh 4 0 (dA 4 0 c) (x + G) (by omega) (by omega) (by omega) hn (by omega), vv_un _ _ (by omega), eA_o hf, fin_o]
  refine ⟨G, vv (dA 4 0 c) (5 + 4 * f + 0), by omega, key, ?_, fun hn => ?_⟩
  · have k1 := (key (vv c (5 + 4 * f + 1)) (Nat.le_refl _)).1
    rw [st_id hI hf] at k1
    exact k1
  · have k2 := (key (vv c (5 + 4 * f + 1)) (Nat.le_refl _)).2 hn
    rw [st_id hI hf] at k2
    rw [k2, vv_us _ _ (by omega)]
theorem NF_D (t : MS) (s a : SS) (d : Int32) (e : SS) : mgDryNow (NF t s a d e) = d := rfl
/-! never dry, and the least that was left -/
def ndB (f : Nat) : Nat → SS → Bool
  | 0, _ => true
  | n + 1, c => !(decide (((dayD c >>> (nI f &&& (31 : Int32))) &&& (1 : Int32)) = (1 : Int32))) && ndB f n (dayN c)
theorem ndB_w {f n : Nat} {c : SS} (h : wdr (dayD c) f) : ndB f (n + 1) c = false := by
  unfold ndB
  rw [decide_eq_true (show ((dayD c >>> (nI f &&& (31 : Int32))) &&& (1 : Int32)) = (1 : Int32) from h)]
  rfl
theorem ndB_n {f n : Nat} {c : SS} (h : ¬ wdr (dayD c) f) : ndB f (n + 1) c = ndB f n (dayN c) := by
  show (!(decide _) && ndB f n (dayN c)) = _
  rw [decide_eq_false (show ¬ ((dayD c >>> (nI f &&& (31 : Int32))) &&& (1 : Int32)) = (1 : Int32) from h)]
  rfl
def lw (f : Nat) : Nat → SS → Nat → Nat
  | 0, _, l => l
  | n + 1, c, l => lw f n (dayN c) (min l (vv (dayN c) (5 + 4 * f + 1)))
theorem lw_min (f : Nat) : ∀ (n : Nat) (c : SS) (a b : Nat), lw f n c (min a b) = min a (lw f n c b) := by
  intro n
  induction n with
  | zero => intro c a b; rfl
  | succ n ih =>
    intro c a b
    unfold lw
    rw [Nat.min_assoc, ih]
theorem lw_le (f : Nat) : ∀ (n : Nat) (c : SS) (l : Nat), lw f n c l ≤ l := by
  intro n
  induction n with
  | zero => intro c l; exact Nat.le_refl _
  | succ n ih => intro c l; exact Nat.le_trans (ih _ _) (Nat.min_le_left _ _)
theorem nd_sh {f : Nat} (hf : f < 4) : ∀ (n : Nat) {c : SS}, IS c → vv c (5 + 4 * f + 1) + 80 * n ≤ 9999 → ∀ x, x ≤ vv c (5 + 4 * f + 1) → (ndB f n (upd c (5 + 4 * f + 1) (nI x)) = true ↔ (ndB f n c = true ∧ vv c (5 + 4 * f + 1) - x ≤ lw f n c (vv c (5 + 4 * f + 1)))) := by
  intro n
  induction n with
  | zero =>
    intro c hI hc x hx
    exact ⟨fun _ => ⟨rfl, Nat.sub_le _ _⟩, fun _ => rfl⟩
  | succ n ih =>
    intro c hI hc x hx
    obtain ⟨G, nd, g0, g1, g2, g3⟩ := day_sh hI hf (by omega)
    obtain ⟨k1, k2⟩ := g1 x hx
    by_cases hd : vv c (5 + 4 * f + 1) + G < nd
    · rw [ndB_w (g2.mpr hd), ndB_w (k1.mpr (by omega))]
      simp
    · have hv := g3 (by omega)
      rw [ndB_n (fun z => hd (g2.mp z))]
      show _ ↔ _ ∧ _ ≤ lw f n (dayN c) (min (vv c (5 + 4 * f + 1)) (vv (dayN c) (5 + 4 * f + 1)))
      by_cases hx2 : x + G < nd
      · rw [ndB_w (k1.mpr hx2)]
        have l1 := lw_le f n (dayN c) (min (vv c (5 + 4 * f + 1)) (vv (dayN c) (5 + 4 * f + 1)))
        have l2 := Nat.min_le_right (vv c (5 + 4 * f + 1)) (vv (dayN c) (5 + 4 * f + 1))
        constructor
        · intro z; cases z
        · rintro ⟨_, z⟩; omega
      · rw [ndB_n (fun z => hx2 (k1.mp z)), k2 (by omega), ih (IS_dayN hI).1 (by omega) (x + G - nd) (by omega), lw_min]
        have l3 : vv (dayN c) (5 + 4 * f + 1) - (x + G - nd) = vv c (5 + 4 * f + 1) - x := by omega
        rw [l3]
        constructor
        · rintro ⟨z1, z2⟩
          exact ⟨z1, Nat.le_min.mpr ⟨Nat.sub_le _ _, z2⟩⟩
        · rintro ⟨z1, z2⟩
          exact ⟨z1, (Nat.le_min.mp z2).2⟩
/-! the class: one trial -/
theorem en6_l {fu : Nat} (hF : 10 ≤ fu) (g : Int32) (o : SS) (h : PS) {f : Nat} (hf : f < 4) (N : Nat) (hN : N < 2 ^ 31) : ∀ (n q fuel : Nat) (x : PS) (c : SS) (l : Nat), q + n = N → n < fuel → RP x c → IS c → l ≤ 400 → ∃ x', g_lp (fun _ _ _ _ => none) (fX6_enough_b53B fu g h (nI f) (nI N)) fuel o x (nI l) (nI q) = if ndB f n c = true then some (nI (400 - lw f n c l), o, x') else some (-1000000004, foN o 3, x') := by
  intro n
  induction n with
  | zero =>
    intro q fuel x c l hq hfu hR hI hl
    obtain ⟨j, rfl⟩ : ∃ j, fuel = j + 1 := ⟨fuel - 1, by omega⟩
    refine ⟨x, ?_⟩
    rw [g_lp_s]
    unfold fX6_enough_b53B
    rw [if_pos (nI_le (by omega) (by omega)), show (400 : Int32) = nI 400 from rfl, pk_sub hl]
    rfl
  | succ n ih =>
    intro q fuel x c l hq hfu hR hI hl
    obtain ⟨j, rfl⟩ : ∃ j, fuel = j + 1 := ⟨fuel - 1, by omega⟩
    obtain ⟨x1, a1, a2, a3⟩ := pass_s hF hR hI
    have i1 := (IS_dayN hI).1
    have w1 := wasDry_s fu x1 f
    rw [a3] at w1
    rcases w1 with ⟨w1, w2⟩ | ⟨w1, w2⟩
    · refine ⟨x1, ?_⟩
      rw [ndB_w w1, g_lp_s]
      unfold fX6_enough_b53B
      rw [if_neg (nI_ge (by omega) (by omega)), a1, bnd_s, w2, bnd_s, if_neg (by decide), f6_3, bnd_s]
      rfl
    · have q2 := (a2.2.2.2.1 f hf).2.1
      have b2 := (i1.2.2.2.2.2.1 f hf).2.1
      have hb2 := b2.2
      obtain ⟨x', e1⟩ := ih (q + 1) j x1 (dayN c) (min l (vv (dayN c) (5 + 4 * f + 1))) (by omega) (by omega) a2 i1 (Nat.le_trans (Nat.min_le_left _ _) hl)
      refine ⟨x', ?_⟩
      have st : ∀ K, fX6_enough_b53B fu g h (nI f) (nI N) K o x (nI l) (nI q) = K o x1 (nI (min l (vv (dayN c) (5 + 4 * f + 1)))) (nI (q + 1)) := by
        intro K
        unfold fX6_enough_b53B
        rw [if_neg (nI_ge (by omega) (by omega)), a1, bnd_s, w2, bnd_s, if_pos rfl, ald4 hf, q2, b2.1, min_c (by omega) (by omega), nm_s, nm_s, nI_1]
      rw [ndB_n w1, g_lp_s, st, e1]
      rfl
/-! the reference: one trial a store -/
theorem in_1 {fu : Nat} (hF : 10 ≤ fu) {f : Nat} (N : Nat) (hN : N < 2 ^ 31) (t : MS) (a : SS) (e : SS) : ∀ (n q fuel : Nat) (c : SS) (d : Int32), q + n = N → n < fuel → IS c → ∃ d', g_lp (fun _ _ _ => none) (fX7_isNeverDry_b9B fu (nI f) (nI N)) fuel (NF t c a d e) 1 (nI q) = some (0, NF t a a d' e) := by
  intro n
  induction n with
  | zero =>
    intro q fuel c d hq hfu hI
    obtain ⟨j, rfl⟩ : ∃ j, fuel = j + 1 := ⟨fuel - 1, by omega⟩
    refine ⟨d, ?_⟩
    rw [g_lp_s]
    unfold fX7_isNeverDry_b9B fX7_isNeverDry_b57
    rw [if_pos (nI_le (by omega) (by omega)), if_neg (by decide), NF_tb, bnd_s]
    show (if (1 : Int32) = 0 then _ else _) = _
    rw [if_neg (by decide), z_0]
  | succ n ih =>
    intro q fuel c d hq hfu hI
    obtain ⟨j, rfl⟩ : ∃ j, fuel = j + 1 := ⟨fuel - 1, by omega⟩
    have ds := day_s hF (NF t c a d e) hI
    rw [NF_S, NF_go] at ds
    obtain ⟨d', h1⟩ := ih (q + 1) j (dayN c) (dayD c) (by omega) (by omega) (IS_dayN hI).1
    refine ⟨d', ?_⟩
    have st : ∀ K, fX7_isNeverDry_b9B fu (nI f) (nI N) K (NF t c a d e) 1 (nI q) = K (NF t (dayN c) a (dayD c) e) 1 (nI (q + 1)) := by
      intro K
      unfold fX7_isNeverDry_b9B
      rw [if_neg (nI_ge (by omega) (by omega)), ds, bnd_s, if_neg (by decide), nm_s, nI_1]
    rw [g_lp_s, st]
    exact h1
theorem in_0 {fu : Nat} (hF : 10 ≤ fu) {f : Nat} (N : Nat) (hN : N < 2 ^ 31) (t : MS) (a : SS) (e : SS) : ∀ (n q fuel : Nat) (c : SS) (d : Int32), q + n = N → n < fuel → IS c → ∃ d', g_lp (fun _ _ _ => none) (fX7_isNeverDry_b9B fu (nI f) (nI N)) fuel (NF t c a d e) 0 (nI q) = some (if ndB f n c = true then 1 else 0, NF t a a d' e) := by
  intro n
  induction n with
  | zero =>
    intro q fuel c d hq hfu hI
    obtain ⟨j, rfl⟩ : ∃ j, fuel = j + 1 := ⟨fuel - 1, by omega⟩
    refine ⟨d, ?_⟩
    rw [g_lp_s]
    unfold fX7_isNeverDry_b9B fX7_isNeverDry_b57
    rw [if_pos (nI_le (by omega) (by omega)), if_pos rfl, NF_tb, bnd_s]
    show (if (0 : Int32) = 0 then _ else _) = _
    rw [if_pos rfl, z_1]
    rfl
  | succ n ih =>
    intro q fuel c d hq hfu hI
    obtain ⟨j, rfl⟩ : ∃ j, fuel = j + 1 := ⟨fuel - 1, by omega⟩
    have ds := day_s hF (NF t c a d e) hI
    rw [NF_S, NF_go] at ds
    by_cases hw : wdr (dayD c) f
    · obtain ⟨d', h1⟩ := in_1 hF (f := f) N hN t a e n (q + 1) j (dayN c) (dayD c) (by omega) (by omega) (IS_dayN hI).1
      refine ⟨d', ?_⟩
      have st : ∀ K, fX7_isNeverDry_b9B fu (nI f) (nI N) K (NF t c a d e) 0 (nI q) = K (NF t (dayN c) a (dayD c) e) 1 (nI (q + 1)) := by
        intro K
        unfold fX7_isNeverDry_b9B
        rw [if_neg (nI_ge (by omega) (by omega)), ds, bnd_s, if_pos rfl, NF_D, if_pos (show ((dayD c >>> (nI f &&& (31 : Int32))) &&& (1 : Int32)) = (1 : Int32) from hw), nm_s, nI_1]
      rw [g_lp_s, st, h1, ndB_w hw]
      rfl
    · obtain ⟨d', h1⟩ := ih (q + 1) j (dayN c) (dayD c) (by omega) (by omega) (IS_dayN hI).1
      refine ⟨d', ?_⟩
      have st : ∀ K, fX7_isNeverDry_b9B fu (nI f) (nI N) K (NF t c a d e) 0 (nI q) = K (NF t (dayN c) a (dayD c) e) 0 (nI (q + 1)) := by
        intro K
        unfold fX7_isNeverDry_b9B
        rw [if_neg (nI_ge (by omega) (by omega)), ds, bnd_s, if_pos rfl, NF_D, if_neg (show ¬ ((dayD c >>> (nI f &&& (31 : Int32))) &&& (1 : Int32)) = (1 : Int32) from hw), nm_s, nI_1]
      rw [g_lp_s, st, h1, ndB_n hw]
theorem ind_s {fu : Nat} (hF : 5000 ≤ fu) (f : Nat) {N : Nat} (hN : N ≤ 60) (t : MS) {s : SS} (hI : IS s) (a : SS) (d : Int32) (e : SS) : ∃ d', fX7_isNeverDry fu (NF t s a d e) (nI f) (nI N) = some (if ndB f N s = true then 1 else 0, NF t s s d' e) := by
  obtain ⟨d', h1⟩ := in_0 (fu := fu) (by omega) (f := f) N (by omega) t s e N 0 fu s d (by omega) (by omega) hI
  refine ⟨d', ?_⟩
  unfold fX7_isNeverDry
  rw [NF_la, bnd_s]
  exact h1
theorem en7_st {fu : Nat} (hF : 5000 ≤ fu) {f : Nat} (hf : f < 4) {N : Nat} (hN : N ≤ 60) (was : Int32) (t : MS) {s0 : SS} (hI : IS s0) {q : Nat} (hq : q ≤ 400) (x : Int32) (a : SS) (d : Int32) (e : SS) : ∃ a' d', ∀ K, fX7_enough_b38B fu (nI f) (nI N) was K (NF t (upd s0 (5 + 4 * f + 1) x) a d e) (-1) (nI q) = if ndB f N (upd s0 (5 + 4 * f + 1) (nI q)) = true then K (NF t (upd s0 (5 + 4 * f + 1) (nI q)) a' d' e) (nI q) (nI (q + 1)) else K (NF t (upd s0 (5 + 4 * f + 1) (nI q)) a' d' e) (-1) (nI (q + 1)) := by
  obtain ⟨d', h1⟩ := ind_s hF f hN t (IS_store hI hf (v := q) (by omega)) a d e
  refine ⟨upd s0 (5 + 4 * f + 1) (nI q), d', fun K => ?_⟩
  unfold fX7_enough_b38B
  rw [if_neg (show ¬ (400 : Int32) < nI q from nI_nlt (a := 400) hq (by decide)), if_neg (by decide), fld1 fu hf, bnd_s, in53 (by omega), nI_clamp (by omega), NF_u, upd_uu, h1, bnd_s, nm_s, nm_s, nI_1]
  show (if (if ndB f N (upd s0 (5 + 4 * f + 1) (nI q)) = true then (1 : Int32) else 0) = 0 then _ else _) = _
  by_cases hn : ndB f N (upd s0 (5 + 4 * f + 1) (nI q)) = true
  · rw [if_pos hn, if_pos hn, if_neg (by decide)]
  · rw [if_neg hn, if_neg hn, if_pos rfl]
theorem en7_n {fu : Nat} (hF : 5000 ≤ fu) {f : Nat} (hf : f < 4) {N : Nat} (hN : N ≤ 60) (was : Int32) (t : MS) {s0 : SS} (hI : IS s0) (hB : ∀ v, v ≤ 400 → ndB f N (upd s0 (5 + 4 * f + 1) (nI v)) = false) (e : SS) : ∀ (n q fuel : Nat) (x : Int32) (a : SS) (d : Int32), q + n = 401 → n < fuel → ∃ x' a' d', g_lp (fun _ _ _ => none) (fX7_enough_b38B fu (nI f) (nI N) was) fuel (NF t (upd s0 (5 + 4 * f + 1) x) a d e) (-1) (nI q) = fX7_enough_b86 fu (NF t (upd s0 (5 + 4 * f + 1) x') a' d' e) (nI f) was (-1) := by
  intro n
  induction n with
  | zero =>
    intro q fuel x a d hq hfu
    obtain ⟨j, rfl⟩ : ∃ j, fuel = j + 1 := ⟨fuel - 1, by omega⟩
    refine ⟨x, a, d, ?_⟩
    rw [g_lp_s]
    unfold fX7_enough_b38B
    rw [if_pos (show (400 : Int32) < nI q from nI_lt (a := 400) (by omega) (by omega))]
  | succ n ih =>
    intro q fuel x a d hq hfu
    obtain ⟨j, rfl⟩ : ∃ j, fuel = j + 1 := ⟨fuel - 1, by omega⟩
    obtain ⟨a1, d1, h1⟩ := en7_st hF hf hN was t hI (q := q) (by omega) x a d e
    rw [g_lp_s, h1, hB q (by omega), if_neg (by decide)]
    exact ih (q + 1) j (nI q) a1 d1 (by omega) (by omega)
theorem en7_y {fu : Nat} (hF : 5000 ≤ fu) {f : Nat} (hf : f < 4) {N : Nat} (hN : N ≤ 60) (was : Int32) (t : MS) {s0 : SS} (hI : IS s0) {F : Nat} (hF4 : F ≤ 400) (hB : ∀ v, v ≤ 400 → (ndB f N (upd s0 (5 + 4 * f + 1) (nI v)) = true ↔ F ≤ v)) (e : SS) : ∀ (n q fuel : Nat) (x : Int32) (a : SS) (d : Int32), q + n = F → n + 1 < fuel → ∃ x' a' d', g_lp (fun _ _ _ => none) (fX7_enough_b38B fu (nI f) (nI N) was) fuel (NF t (upd s0 (5 + 4 * f + 1) x) a d e) (-1) (nI q) = fX7_enough_b86 fu (NF t (upd s0 (5 + 4 * f + 1) x') a' d' e) (nI f) was (nI F) := by
  intro n
  induction n with
  | zero =>
    intro q fuel x a d hq hfu
    obtain ⟨j, rfl⟩ : ∃ j, fuel = j + 2 := ⟨fuel - 2, by omega⟩
    obtain ⟨a1, d1, h1⟩ := en7_st hF hf hN was t hI (q := q) (by omega) x a d e
    refine ⟨nI q, a1, d1, ?_⟩
    rw [g_lp_s, h1, if_pos ((hB q (by omega)).mpr (by omega)), g_lp_s]
    have hqF : q = F := by omega
    subst hqF
    unfold fX7_enough_b38B
    rw [if_pos (nI_pos' (by omega))]
    split <;> rfl
  | succ n ih =>
    intro q fuel x a d hq hfu
    obtain ⟨j, rfl⟩ : ∃ j, fuel = j + 1 := ⟨fuel - 1, by omega⟩
    obtain ⟨a1, d1, h1⟩ := en7_st hF hf hN was t hI (q := q) (by omega) x a d e
    rw [g_lp_s, h1, if_neg (fun z => by have := (hB q (by omega)).mp z; omega)]
    exact ih (q + 1) j (nI q) a1 d1 (by omega) (by omega)
theorem en86 (fu : Nat) {f : Nat} (hf : f < 4) (t : MS) (s0 : SS) (x : Int32) (a : SS) (d : Int32) (e : SS) (r : Int32) : fX7_enough_b86 fu (NF t (upd s0 (5 + 4 * f + 1) x) a d e) (nI f) (s0 (5 + 4 * f + 1)) r = if (0 : Int32) ≤ r then some (r, NF t s0 a d e) else some (-1000000004, ftN (NF t s0 a d e) 3) := by
  unfold fX7_enough_b86
  rw [fld1 fu hf, bnd_s, in53 (by omega), nI_clamp (by omega), NF_u, upd_uu, upd_id _ _ rfl, f7_3, bnd_s]
theorem pr_enough {fu : Nat} (hF : 5000 ≤ fu) {g : Int32} {o : SS} {h k : PS} {p : TPS} {s : SHS} {t : MS} (hJ : JJ g o h k p s t) (q : PS) (a b : Int32) : ∃ r o' q' t', fX6_enough fu g o h q a b = some (r, o', q') ∧ fX7_enough fu t a b = some (r, t') ∧ JJ g o' h k p s t' := by
  obtain ⟨hR, hI⟩ := hJ.2.1
  have fin : ∃ r o' q' t', fX6_enough_b17 fu g h o q = some (r, o', q') ∧ fX7_enough_b14 fu t = some (r, t') ∧ JJ g o' h k p s t' := by
    unfold fX6_enough_b17 fX7_enough_b14
    rw [f6_0, f7_0]
    exact ⟨_, _, _, _, rfl, rfl, JJ_f hJ 0 (by decide)⟩
  unfold fX6_enough fX7_enough
  rw [isFarm6, isFarm7, bnd_s, bnd_s, tb_if, tb_if]
  by_cases ha : (0 : Int32) ≤ a ∧ a ≤ 3
  · rw [if_pos ha, if_pos ha, within_s, bnd_s, tb_if, isSoon_s, bnd_s, tb_if]
    obtain ⟨f, hf, rfl⟩ := rngL (n := 3) ha.1 ha.2 (by decide)
    have hf4 : f < 4 := by omega
    by_cases hb : (1 : Int32) ≤ b ∧ b ≤ 20
    · obtain ⟨n, hn1, hn2, rfl⟩ := rng1 (n := 20) hb (by decide)
      have f2 : fX1_become fu q h = some h := rfl
      have i4 : IS (upd (mgS t) (5 + 4 * f + 1) (nI 400)) := IS_store hI hf4 (by omega)
      have v4 : vv (upd (mgS t) (5 + 4 * f + 1) (nI 400)) (5 + 4 * f + 1) = 400 := vv_us _ _ (by omega)
      obtain ⟨x', e1⟩ := en6_l (fu := fu) (by omega) g o h hf4 n (by omega) n 0 fu (puStore h f (nI 400)) (upd (mgS t) (5 + 4 * f + 1) (nI 400)) 400 (by omega) (by omega) (RP_uStore hR hf4 _) i4 (by omega)
      have f1 : fX6_enough_b53 fu g h (nI f) (nI n) o (puStore h f 400) 400 0 = _ := e1
      have hn := fun v (hv : v ≤ 400) => nd_sh hf4 n i4 (by omega) v (by omega)
      rw [if_pos hb, if_pos hb, f2, bnd_s, in4 hf4, nI_clamp (by omega), f1, fld1 fu hf4, bnd_s, ald53 (by omega)]
      have u0 : ∀ v, upd (upd (mgS t) (5 + 4 * f + 1) (nI 400)) (5 + 4 * f + 1) (nI v) = upd (mgS t) (5 + 4 * f + 1) (nI v) := fun v => upd_uu _ _ _ _
      have hid : NF t (upd (mgS t) (5 + 4 * f + 1) (mgS t (5 + 4 * f + 1))) (mgAside t) (mgDryNow t) (mgSent t) = t := by
        rw [upd_id _ _ rfl, NF_id]
      cases hB : ndB f n (upd (mgS t) (5 + 4 * f + 1) (nI 400)) with
      | false =>
        obtain ⟨x2, a2, d2, h2⟩ := en7_n hF hf4 (N := n) (by omega) (mgS t (5 + 4 * f + 1)) t hI (fun v hv => by
          have := hn v hv
          rw [u0, hB] at this
          cases hz : ndB f n (upd (mgS t) (5 + 4 * f + 1) (nI v)) with
          | false => rfl
          | true => exact absurd (this.mp hz).1 (by decide)) (mgSent t) 401 0 fu (mgS t (5 + 4 * f + 1)) (mgAside t) (mgDryNow t) (by omega) (by omega)
        rw [hid, en86 fu hf4] at h2
        have g2 : fX7_enough_b38 fu (nI f) (nI n) (mgS t (5 + 4 * f + 1)) t (-1) 0 = _ := h2
        rw [g2, if_neg (by decide), if_neg (by decide)]
        exact ⟨_, _, _, _, rfl, rfl, JJ_f (NF_J hJ _ _ _) 3 (by decide)⟩
      | true =>
        have hl := lw_le f n (upd (mgS t) (5 + 4 * f + 1) (nI 400)) 400
        obtain ⟨x2, a2, d2, h2⟩ := en7_y hF hf4 (N := n) (by omega) (mgS t (5 + 4 * f + 1)) t hI (F := 400 - lw f n (upd (mgS t) (5 + 4 * f + 1) (nI 400)) 400) (by omega) (fun v hv => by
          have := hn v hv
          rw [u0, hB, v4] at this
          rw [this]
          constructor
          · rintro ⟨_, z⟩; omega
          · intro z; exact ⟨rfl, by omega⟩) (mgSent t) (400 - lw f n (upd (mgS t) (5 + 4 * f + 1) (nI 400)) 400) 0 fu (mgS t (5 + 4 * f + 1)) (mgAside t) (mgDryNow t) (by omega) (by omega)
        rw [hid, en86 fu hf4] at h2
        have g2 : fX7_enough_b38 fu (nI f) (nI n) (mgS t (5 + 4 * f + 1)) t (-1) 0 = _ := h2
        rw [g2, if_pos rfl, if_pos (nI_pos' (by omega))]
        exact ⟨_, _, _, _, rfl, rfl, NF_J hJ _ _ _⟩
    · rw [if_neg hb, if_neg hb]; exact fin
  · rw [if_neg ha, if_neg ha]; exact fin
