/-! the three loops of a day -/
def stA (s : SS) (f : Nat) : SS := if s (5 + 4 * f + 3) = -1 then s else pulN s (vv s (5 + 4 * f + 3)) f
def dA : Nat → Nat → SS → SS
  | 0, _, s => s
  | n + 1, f, s => dA n (f + 1) (stA s f)
def uA : Nat → Nat → SS → SS
  | 0, _, s => s
  | n + 1, f, s => uA n (f + 1) (useN s f)
def uD : Nat → Nat → SS → Int32 → Int32
  | 0, _, _, d => d
  | n + 1, f, s, d => uD n (f + 1) (useN s f) (useD s f d)
def clr (d : Nat) : Nat := d &&& (d - 1)
def perN (s : SS) (p : Nat) : SS := upd (upd s (21 + 4 * p + 3) (nI 0)) (21 + 4 * p + 1) (nI (clr (vv s (21 + 4 * p + 1))))
def eA : Nat → Nat → SS → SS
  | 0, _, s => s
  | n + 1, p, s => eA n (p + 1) (perN s p)
def finN (s : SS) : SS := upd (upd s 2 (nI (min 9999 (vv s 2 + vv s 3)))) 1 (s 1 + 1)
def dayN (s : SS) : SS := finN (eA (vv s 0) 0 (uA 4 0 (dA 4 0 s)))
def dayD (s : SS) : Int32 := uD 4 0 (dA 4 0 s) 0
theorem clr_d : ∀ d, d < 256 → nI d &&& (nI d - (1 : Int32)) = nI (clr d) ∧ clr d ≤ 255 := by decide +kernel
theorem IS_stA {s : SS} (hI : IS s) {f : Nat} (hf : f < 4) : IS (stA s f) ∧ vv (stA s f) 0 = vv s 0 := by
  unfold stA
  split
  · exact ⟨hI, rfl⟩
  · rename_i h
    rcases (hI.2.2.2.2.2.1 f hf).2.2.2 with d | ⟨d1, d2⟩
    · exact absurd d h
    · exact ⟨IS_pul hI d2 hf, vv0_pul _ _ _⟩
theorem IS_dA : ∀ (n f : Nat) {s : SS}, IS s → f + n ≤ 4 → IS (dA n f s) ∧ vv (dA n f s) 0 = vv s 0 := by
  intro n
  induction n with
  | zero => intro f s hI _; exact ⟨hI, rfl⟩
  | succ n ih =>
    intro f s hI hf
    obtain ⟨h1, h2⟩ := IS_stA hI (f := f) (by omega)
    obtain ⟨h3, h4⟩ := ih (f + 1) h1 (by omega)
    exact ⟨h3, h4.trans h2⟩
theorem IS_uA : ∀ (n f : Nat) {s : SS}, IS s → f + n ≤ 4 → IS (uA n f s) ∧ vv (uA n f s) 0 = vv s 0 := by
  intro n
  induction n with
  | zero => intro f s hI _; exact ⟨hI, rfl⟩
  | succ n ih =>
    intro f s hI hf
    obtain ⟨h3, h4⟩ := ih (f + 1) (IS_use hI (f := f) (by omega)) (by omega)
    exact ⟨h3, h4.trans (vv0_use s f)⟩
theorem IS_per {s : SS} (hI : IS s) {p : Nat} (hp : p < vv s 0) : IS (perN s p) ∧ vv (perN s p) 0 = vv s 0 := by
  obtain ⟨a, b, c, e⟩ := hI.2.2.2.2.2.2 p hp
  unfold perN
  refine ⟨IS_deeds (IS_asked hI (by omega)) (clr_d _ (by have := b.2; omega)).2, ?_⟩
  rw [vv_un _ _ (by omega), vv_un _ _ (by omega)]
theorem IS_eA : ∀ (n p : Nat) {s : SS}, IS s → p + n ≤ vv s 0 → IS (eA n p s) ∧ vv (eA n p s) 0 = vv s 0 := by
  intro n
  induction n with
  | zero => intro f s hI _; exact ⟨hI, rfl⟩
  | succ n ih =>
    intro p s hI hp
    obtain ⟨h1, h2⟩ := IS_per hI (p := p) (by omega)
    obtain ⟨h3, h4⟩ := ih (p + 1) h1 (by omega)
    exact ⟨h3, h4.trans h2⟩
theorem IS_fin {s : SS} (hI : IS s) : IS (finN s) ∧ vv (finN s) 0 = vv s 0 := by
  unfold finN
  refine ⟨IS_day (IS_well hI (Nat.min_le_left _ _)) _, ?_⟩
  rw [vv_un _ _ (by omega), vv_un _ _ (by omega)]
theorem IS_dayN {s : SS} (hI : IS s) : IS (dayN s) ∧ vv (dayN s) 0 = vv s 0 := by
  obtain ⟨a1, a2⟩ := IS_dA 4 0 hI (by omega)
  obtain ⟨b1, b2⟩ := IS_uA 4 0 a1 (by omega)
  obtain ⟨c1, c2⟩ := IS_eA (vv s 0) 0 b1 (by omega)
  obtain ⟨d1, d2⟩ := IS_fin c1
  exact ⟨d1, by rw [show dayN s = finN (eA (vv s 0) 0 (uA 4 0 (dA 4 0 s))) from rfl, d2, c2, b2, a2]⟩
/-! the reference's loops -/
theorem day_b67 (fu : Nat) : ∀ (n p fuel : Nat) (t : MS), p + n = vv (mgS t) 0 → n < fuel → IS (mgS t) → g_lp (fun _ _ => none) (fX7_day_b67B fu) fuel t (nI p) = some (msS t (finN (eA n p (mgS t)))) := by
  intro n
  induction n with
  | zero =>
    intro p fuel t hp hf hI
    obtain ⟨f, rfl⟩ : ∃ f, fuel = f + 1 := ⟨fuel - 1, by omega⟩
    have h8 := hI.1.2
    have h2 := hI.2.2.1
    have h3 := hI.2.2.2.1
    have h22 := h2.2
    have h32 := h3.2
    rw [g_lp_s]
    unfold fX7_day_b67B
    rw [a53_0, hI.1.1, if_pos (nI_le (by omega) (by omega)), a53_2, a53_3, h2.1, h3.1, nm_s, nI_add, l9999, min_m (ρ := Option MS) (by omega) (by decide) (fun z => fX7_day_b148 fu t z (2 : Int32))]
    unfold fX7_day_b148
    rw [i53_2, a53_1, i53_1, cl2, cl1, Nat.min_comm, mgS_u, pk_un (by decide)]
    rfl
  | succ n ih =>
    intro p fuel t hp hf hI
    obtain ⟨f, rfl⟩ : ∃ f, fuel = f + 1 := ⟨fuel - 1, by omega⟩
    have h8 := hI.1.2
    obtain ⟨a, b, c, e⟩ := hI.2.2.2.2.2.2 p (by omega)
    have hb := b.2
    rw [g_lp_s]
    unfold fX7_day_b67B
    rw [a53_0, hI.1.1, if_neg (nI_ge (by omega) (by omega)), spt3 fu (by omega), bnd_s, in53 (by omega), spt1 fu (by omega), bnd_s, ald53 (by omega), its1 fu _ (by omega), bnd_s, in53 (by omega), nm_s, nI_1, nI_clamp (by omega), nI_clamp (by omega), mgS_u, pk_un (by omega), b.1, (clr_d _ (by omega)).1]
    obtain ⟨g1, g2⟩ := IS_per hI (p := p) (by omega)
    exact ih (p + 1) f (msS t (perN (mgS t) p)) (by show _ = vv (perN (mgS t) p) 0; omega) (by omega) g1
theorem day_b49 (fu : Nat) : ∀ (n f fuel : Nat) (t : MS), f + n = 4 → n < fuel → IS (mgS t) → g_lp (fun _ _ => none) (fX7_day_b49B fu) fuel t (nI f) = fX7_day_b67 fu (msDryNow (msS t (uA n f (mgS t))) (uD n f (mgS t) (mgDryNow t))) (0 : Int32) := by
  intro n
  induction n with
  | zero =>
    intro f fuel t hf hfu hI
    obtain ⟨k, rfl⟩ : ∃ k, fuel = k + 1 := ⟨fuel - 1, by omega⟩
    have : f = 4 := by omega
    subst this
    rw [g_lp_s]
    unfold fX7_day_b49B
    rw [if_pos (show (4 : Int32) ≤ nI 4 by decide)]
    rfl
  | succ n ih =>
    intro f fuel t hf hfu hI
    obtain ⟨k, rfl⟩ : ∃ k, fuel = k + 1 := ⟨fuel - 1, by omega⟩
    rw [g_lp_s]
    unfold fX7_day_b49B
    rw [if_neg (show ¬ (4 : Int32) ≤ nI f from nI_ge (b := 4) (by omega) (by omega)), uses_s fu t hI (by omega), bnd_s, nm_s, nI_1]
    exact ih (f + 1) k _ (by omega) (by omega) (IS_use hI (f := f) (by omega))
theorem day_b7 {fu : Nat} (hF : 10 ≤ fu) : ∀ (n f fuel : Nat) (t : MS), f + n = 4 → n < fuel → IS (mgS t) → g_lp (fun _ _ => none) (fX7_day_b7B fu) fuel t (nI f) = fX7_day_b49 fu (msS t (dA n f (mgS t))) (0 : Int32) := by
  intro n
  induction n with
  | zero =>
    intro f fuel t hf hfu hI
    obtain ⟨k, rfl⟩ : ∃ k, fuel = k + 1 := ⟨fuel - 1, by omega⟩
    have : f = 4 := by omega
    subst this
    rw [g_lp_s]
    unfold fX7_day_b7B
    rw [if_pos (show (4 : Int32) ≤ nI 4 by decide)]
    rfl
  | succ n ih =>
    intro f fuel t hf hfu hI
    obtain ⟨k, rfl⟩ : ∃ k, fuel = k + 1 := ⟨fuel - 1, by omega⟩
    have h8 := hI.1.2
    rw [g_lp_s]
    unfold fX7_day_b7B
    rw [if_neg (show ¬ (4 : Int32) ≤ nI f from nI_ge (b := 4) (by omega) (by omega)), fld3 fu (by omega), bnd_s, ald53 (by omega)]
    have hs := (IS_stA hI (f := f) (by omega)).1
    rcases (hI.2.2.2.2.2.1 f (by omega)).2.2.2 with d | ⟨d1, d2⟩
    · have e1 : stA (mgS t) f = mgS t := if_pos d
      rw [d, if_pos (by decide), nm_s, nI_1]
      have e2 : dA (n + 1) f (mgS t) = dA n (f + 1) (mgS t) := congrArg (dA n (f + 1)) e1
      rw [e2]
      exact ih (f + 1) k t (by omega) (by omega) hI
    · have h9 : ¬ mgS t (5 + 4 * f + 3) = -1 := fun z => by
        rw [d1.1] at z
        have z2 := congrArg Int32.toInt z
        rw [nI_toInt (by omega)] at z2
        have : (-1 : Int32).toInt = -1 := by decide
        omega
      have e1 : stA (mgS t) f = pulN (mgS t) (vv (mgS t) (5 + 4 * f + 3)) f := if_neg h9
      rw [d1.1, if_neg (nI_pos (by omega)), bnd_s, ald53 (by omega), d1.1, pulls_s hF t hI d2 (by omega), bnd_s, nm_s, nI_1, ← e1]
      exact ih (f + 1) k (msS t (stA (mgS t) f)) (by omega) (by omega) hs
theorem day_ms (t : MS) (a b c : SS) (d : Int32) : msS (msDryNow (msS (msS (msDryNow t 0) a) b) d) c = msDryNow (msS t c) d := rfl
theorem day_g {fu : Nat} (hF : 10 ≤ fu) (t : MS) (hI : IS (mgS t)) (n : Nat) (hn : n = 4) : fX7_day fu t = some (msDryNow (msS t (finN (eA (vv (mgS t) 0) 0 (uA n 0 (dA n 0 (mgS t)))))) (uD n 0 (dA n 0 (mgS t)) 0)) := by
  obtain ⟨a1, a2⟩ := IS_dA n 0 hI (by omega)
  obtain ⟨b1, b2⟩ := IS_uA n 0 a1 (by omega)
  have h8 := hI.1.2
  have e1 : fX7_day fu t = fX7_day_b49 fu (msS (msDryNow t 0) (dA n 0 (mgS t))) 0 := day_b7 hF n 0 fu (msDryNow t 0) (by omega) (by omega) hI
  rw [e1]
  generalize hA : dA n 0 (mgS t) = sA at *
  have e2 : fX7_day_b49 fu (msS (msDryNow t 0) sA) 0 = fX7_day_b67 fu (msDryNow (msS (msS (msDryNow t 0) sA) (uA n 0 sA)) (uD n 0 sA 0)) 0 := day_b49 fu n 0 fu (msS (msDryNow t 0) sA) (by omega) (by omega) a1
  rw [e2]
  generalize hB : uA n 0 sA = sB at *
  generalize hD : uD n 0 sA 0 = dB at *
  have e3 : fX7_day_b67 fu (msDryNow (msS (msS (msDryNow t 0) sA) sB) dB) 0 = some (msS (msDryNow (msS (msS (msDryNow t 0) sA) sB) dB) (finN (eA (vv (mgS t) 0) 0 sB))) := day_b67 fu (vv (mgS t) 0) 0 fu (msDryNow (msS (msS (msDryNow t 0) sA) sB) dB) (by show _ = vv sB 0; omega) (by omega) b1
  rw [e3, day_ms]
theorem day_s {fu : Nat} (hF : 10 ≤ fu) (t : MS) (hI : IS (mgS t)) : fX7_day fu t = some (msDryNow (msS t (dayN (mgS t))) (dayD (mgS t))) := day_g hF t hI 4 rfl
/-! the class's loops -/
theorem pass_b63 (fu : Nat) : ∀ (n p fuel : Nat) (x : PS) (s : SS), p + n = vv s 0 → n < fuel → RP x s → IS s → ∃ x', g_lp (fun _ _ => none) (fX1_passDay_b63B fu) fuel x (nI p) = some x' ∧ RP x' (finN (eA n p s)) ∧ pgDryFarms x' = pgDryFarms x := by
  intro n
  induction n with
  | zero =>
    intro p fuel x s hp hf h hI
    obtain ⟨f, rfl⟩ : ∃ f, fuel = f + 1 := ⟨fuel - 1, by omega⟩
    have h8 := hI.1.2
    have h2 := hI.2.2.1
    have h3 := hI.2.2.2.1
    have h22 := h2.2
    have h32 := h3.2
    rw [g_lp_s]
    unfold fX1_passDay_b63B
    rw [h.1, hI.1.1, if_pos (nI_le (by omega) (by omega)), a3_0, a3_1, i3_0, h.2.2.1 0 (by decide), h.2.2.1 1 (by decide), show s (2 + 0) = nI (vv s 2) from h2.1, show s (2 + 1) = nI (vv s 3) from h3.1, nI_add, l9999, min_c (by decide) (by omega), cl0]
    refine ⟨_, rfl, ?_, rfl⟩
    have q : pgDay (puWater x 0 (nI (min 9999 (vv s 2 + vv s 3)))) = s 1 := h.2.1
    rw [q]
    exact RP_sDay (RP_uWater h (q := 0) (by decide) _) _
  | succ n ih =>
    intro p fuel x s hp hf h hI
    obtain ⟨f, rfl⟩ : ∃ f, fuel = f + 1 := ⟨fuel - 1, by omega⟩
    have h8 := hI.1.2
    obtain ⟨a, b, c, e⟩ := hI.2.2.2.2.2.2 p (by omega)
    obtain ⟨q1, q2, q3, q4⟩ := h.2.2.2.2 p (by omega)
    have hb := b.2
    have qd : pgDeeds (puAsked x p (0 : Int32)) p = nI (vv s (21 + 4 * p + 1)) := by
      show pgDeeds x p = _
      rw [q2]; exact b.1
    rw [g_lp_s]
    unfold fX1_passDay_b63B
    rw [h.1, hI.1.1, if_neg (nI_ge (by omega) (by omega)), in8 (by omega), ald8 (by omega), ald8 (by omega), in8 (by omega), nm_s, nI_1, nI_clamp (by omega), qd, (clr_d _ (by omega)).1]
    obtain ⟨g1, g2⟩ := IS_per hI (p := p) (by omega)
    exact ih (p + 1) f _ (perN s p) (by omega) (by omega) (RP_uDeeds (RP_uAsked h (by omega) _) (by omega) _) g1
theorem pass_b45 (fu : Nat) : ∀ (n f fuel : Nat) (x : PS) (s : SS), f + n = 4 → n < fuel → RP x s → IS s → ∃ x', g_lp (fun _ _ => none) (fX1_passDay_b45B fu) fuel x (nI f) = fX1_passDay_b63 fu x' (0 : Int32) ∧ RP x' (uA n f s) ∧ pgDryFarms x' = uD n f s (pgDryFarms x) := by
  intro n
  induction n with
  | zero =>
    intro f fuel x s hf hfu h hI
    obtain ⟨k, rfl⟩ : ∃ k, fuel = k + 1 := ⟨fuel - 1, by omega⟩
    have : f = 4 := by omega
    subst this
    rw [g_lp_s]
    unfold fX1_passDay_b45B
    rw [if_pos (show (4 : Int32) ≤ nI 4 by decide)]
    exact ⟨x, rfl, h, rfl⟩
  | succ n ih =>
    intro f fuel x s hf hfu h hI
    obtain ⟨k, rfl⟩ : ∃ k, fuel = k + 1 := ⟨fuel - 1, by omega⟩
    obtain ⟨x1, u1, u2, u3⟩ := useNeed_s fu h hI (f := f) (by omega)
    obtain ⟨x2, v1, v2, v3⟩ := ih (f + 1) k x1 (useN s f) (by omega) (by omega) u2 (IS_use hI (f := f) (by omega))
    rw [g_lp_s]
    unfold fX1_passDay_b45B
    rw [if_neg (show ¬ (4 : Int32) ≤ nI f from nI_ge (b := 4) (by omega) (by omega)), u1, bnd_s, nm_s, nI_1]
    refine ⟨x2, v1, v2, ?_⟩
    rw [v3, u3]
    rfl
theorem pass_b2 (fu : Nat) : ∀ (n f fuel : Nat) (x : PS) (s : SS), f + n = 4 → n < fuel → RP x s → IS s → ∃ x', g_lp (fun _ _ => none) (fX1_passDay_b2B fu) fuel x (nI f) = fX1_passDay_b45 fu (psDryFarms x' (0 : Int32)) (0 : Int32) ∧ RP x' (dA n f s) := by
  intro n
  induction n with
  | zero =>
    intro f fuel x s hf hfu h hI
    obtain ⟨k, rfl⟩ : ∃ k, fuel = k + 1 := ⟨fuel - 1, by omega⟩
    have : f = 4 := by omega
    subst this
    rw [g_lp_s]
    unfold fX1_passDay_b2B
    rw [if_pos (show (4 : Int32) ≤ nI 4 by decide)]
    exact ⟨x, rfl, h⟩
  | succ n ih =>
    intro f fuel x s hf hfu h hI
    obtain ⟨k, rfl⟩ : ∃ k, fuel = k + 1 := ⟨fuel - 1, by omega⟩
    have h8 := hI.1.2
    obtain ⟨r1, r2, r3, r4⟩ := h.2.2.2.1 f (by omega)
    have hs := (IS_stA hI (f := f) (by omega)).1
    rw [g_lp_s]
    unfold fX1_passDay_b2B
    rw [if_neg (show ¬ (4 : Int32) ≤ nI f from nI_ge (b := 4) (by omega) (by omega)), ald4 (by omega), r4]
    rcases (hI.2.2.2.2.2.1 f (by omega)).2.2.2 with d | ⟨d1, d2⟩
    · have e1 : stA s f = s := if_pos d
      unfold fX1_isThere
      rw [d, if_pos (by decide), z_0, bnd_s, if_pos rfl, nm_s, nI_1]
      obtain ⟨x2, v1, v2⟩ := ih (f + 1) k x s (by omega) (by omega) h hI
      refine ⟨x2, v1, ?_⟩
      show RP x2 (dA n (f + 1) (stA s f))
      rw [e1]; exact v2
    · have h9 : ¬ s (5 + 4 * f + 3) = -1 := fun z => by
        rw [d1.1] at z
        have z2 := congrArg Int32.toInt z
        rw [nI_toInt (by omega)] at z2
        have : (-1 : Int32).toInt = -1 := by decide
        omega
      have e1 : stA s f = pulN s (vv s (5 + 4 * f + 3)) f := if_neg h9
      obtain ⟨x1, u1, u2, u3⟩ := draw_s fu h hI d2 (f := f) (by omega)
      rw [← e1] at u2
      obtain ⟨x2, v1, v2⟩ := ih (f + 1) k x1 (stA s f) (by omega) (by omega) u2 hs
      unfold fX1_isThere
      rw [d1.1, if_neg (nI_pos (by omega)), h.1, hI.1.1, if_neg (nI_ge d2 (by omega)), z_1, bnd_s, if_neg (by decide), ald4 (by omega), r4, d1.1, u1, bnd_s, nm_s, nI_1]
      exact ⟨x2, v1, v2⟩
theorem pass_g {fu : Nat} (hF : 10 ≤ fu) {x : PS} {s : SS} (h : RP x s) (hI : IS s) (n : Nat) (hn : n = 4) : ∃ x', fX1_passDay fu x = some x' ∧ RP x' (finN (eA (vv s 0) 0 (uA n 0 (dA n 0 s)))) ∧ pgDryFarms x' = uD n 0 (dA n 0 s) 0 := by
  obtain ⟨a1, a2⟩ := IS_dA n 0 hI (by omega)
  obtain ⟨b1, b2⟩ := IS_uA n 0 a1 (by omega)
  have h8 := hI.1.2
  obtain ⟨x1, u1, u2⟩ := pass_b2 fu n 0 fu x s (by omega) (by omega) h hI
  obtain ⟨x2, v1, v2, v3⟩ := pass_b45 fu n 0 fu (psDryFarms x1 0) (dA n 0 s) (by omega) (by omega) u2 a1
  obtain ⟨x3, w1, w2, w3⟩ := pass_b63 fu (vv s 0) 0 fu x2 (uA n 0 (dA n 0 s)) (by omega) (by omega) v2 b1
  refine ⟨x3, ?_, w2, w3.trans v3⟩
  have e1 : fX1_passDay fu x = fX1_passDay_b45 fu (psDryFarms x1 0) 0 := u1
  have e2 : fX1_passDay_b45 fu (psDryFarms x1 0) 0 = fX1_passDay_b63 fu x2 0 := v1
  rw [e1, e2]
  exact w1
theorem pass_s {fu : Nat} (hF : 10 ≤ fu) {x : PS} {s : SS} (h : RP x s) (hI : IS s) : ∃ x', fX1_passDay fu x = some x' ∧ RP x' (dayN s) ∧ pgDryFarms x' = dayD s := pass_g hF h hI 4 rfl
