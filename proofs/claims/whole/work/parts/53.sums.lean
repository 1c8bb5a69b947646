/-! sums -/
def sm (f : SS) : Nat → Nat → Int32 → Int32
  | 0, _, acc => acc
  | n + 1, k, acc => sm f n (k + 1) (acc + f k)
theorem sm_c {f f' : SS} : ∀ (n k : Nat) (acc : Int32), (∀ j, k ≤ j → j < k + n → f j = f' j) → sm f n k acc = sm f' n k acc := by
  intro n
  induction n with
  | zero => intro k acc _; rfl
  | succ n ih =>
    intro k acc h
    show sm f n (k + 1) (acc + f k) = sm f' n (k + 1) (acc + f' k)
    rw [h k (Nat.le_refl _) (by omega)]
    exact ih (k + 1) _ (fun j a b => h j (by omega) (by omega))
theorem tot_l (fu N : Nat) (hN : N < 2 ^ 31) (f : SS) : ∀ (n k fuel : Nat) (acc : Int32), k + n = N → n < fuel → g_lp (fun _ _ => none) (fX1_total_b10B fu N f (nI N)) fuel acc (nI k) = some (sm f n k acc) := by
  intro n
  induction n with
  | zero =>
    intro k fuel acc hk hf
    obtain ⟨j, rfl⟩ : ∃ j, fuel = j + 1 := ⟨fuel - 1, by omega⟩
    rw [g_lp_s]
    unfold fX1_total_b10B
    rw [if_pos (nI_le (by omega) (by omega))]
    rfl
  | succ n ih =>
    intro k fuel acc hk hf
    obtain ⟨j, rfl⟩ : ∃ j, fuel = j + 1 := ⟨fuel - 1, by omega⟩
    rw [g_lp_s]
    unfold fX1_total_b10B
    rw [if_neg (nI_ge (by omega) (by omega)), ald_nI (by omega) hN, nm_s, nm_s, nI_1]
    exact ih (k + 1) j _ (by omega) (by omega)
theorem total_s {fu : Nat} (N : Nat) (hN : N < 2 ^ 31) (hF : N < fu) (f : SS) : fX1_total fu N f = some (sm f N 0 0) := tot_l fu N hN f N 0 fu 0 (by omega) hF
def fr (s : SS) (w : Nat) : SS := fun f => s (5 + 4 * f + w)
theorem tog_l (fu : Nat) (t : MS) {w : Nat} (hw : w < 4) : ∀ (n k fuel : Nat) (acc : Int32), k + n = 4 → n < fuel → g_lp (fun _ _ => none) (fX7_together_b4B fu t (nI w)) fuel acc (nI k) = some (sm (fr (mgS t) w) n k acc) := by
  intro n
  induction n with
  | zero =>
    intro k fuel acc hk hf
    obtain ⟨j, rfl⟩ : ∃ j, fuel = j + 1 := ⟨fuel - 1, by omega⟩
    rw [g_lp_s]
    unfold fX7_together_b4B
    rw [if_pos (show (4 : Int32) ≤ nI k from nI_le (a := 4) (by omega) (by omega))]
    rfl
  | succ n ih =>
    intro k fuel acc hk hf
    obtain ⟨j, rfl⟩ : ∃ j, fuel = j + 1 := ⟨fuel - 1, by omega⟩
    rw [g_lp_s]
    unfold fX7_together_b4B
    rw [if_neg (show ¬ (4 : Int32) ≤ nI k from nI_ge (b := 4) (by omega) (by omega)), field_s fu (by omega) hw, bnd_s, ald53 (by omega), nm_s, nm_s, nI_1]
    exact ih (k + 1) j _ (by omega) (by omega)
theorem together_s {fu : Nat} (hF : 10 ≤ fu) (t : MS) {w : Nat} (hw : w < 4) : fX7_together fu t (nI w) = some (sm (fr (mgS t) w) 4 0 0) := tog_l fu t hw 4 0 fu 0 (by omega) (by omega)
theorem tot_need {fu : Nat} (hF : 10 ≤ fu) {x : PS} {s : SS} (h : RP x s) : fX1_total fu 4 (pgNeed x) = some (sm (fr s 0) 4 0 0) := by
  rw [total_s 4 (by decide) (by omega), sm_c (f' := fr s 0) 4 0 0 (fun j _ hj => (h.2.2.2.1 j (by omega)).1)]
theorem tot_store {fu : Nat} (hF : 10 ≤ fu) {x : PS} {s : SS} (h : RP x s) : fX1_total fu 4 (pgStore x) = some (sm (fr s 1) 4 0 0) := by
  rw [total_s 4 (by decide) (by omega), sm_c (f' := fr s 1) 4 0 0 (fun j _ hj => (h.2.2.2.1 j (by omega)).2.1)]
theorem tot_thirst {fu : Nat} (hF : 10 ≤ fu) {x : PS} {s : SS} (h : RP x s) : fX1_total fu 4 (pgThirst x) = some (sm (fr s 2) 4 0 0) := by
  rw [total_s 4 (by decide) (by omega), sm_c (f' := fr s 2) 4 0 0 (fun j _ hj => (h.2.2.2.1 j (by omega)).2.2.1)]
/-! status -/
theorem sta_neg (fu : Nat) (t : MS) {x : Int32} (hx : x < 0) : ∀ (n k fuel : Nat) (acc : Int32), k + n = 7 → n < fuel → g_lp (fun _ _ _ => none) (fX7_status_b25B fu x) fuel t acc (nI k) = some (sm (mgStatuses t) n k acc, t) := by
  intro n
  induction n with
  | zero =>
    intro k fuel acc hk hf
    obtain ⟨j, rfl⟩ : ∃ j, fuel = j + 1 := ⟨fuel - 1, by omega⟩
    rw [g_lp_s]
    unfold fX7_status_b25B
    rw [if_pos (show (7 : Int32) ≤ nI k from nI_le (a := 7) (by omega) (by omega))]
    rfl
  | succ n ih =>
    intro k fuel acc hk hf
    obtain ⟨j, rfl⟩ : ∃ j, fuel = j + 1 := ⟨fuel - 1, by omega⟩
    rw [g_lp_s]
    unfold fX7_status_b25B
    rw [if_neg (show ¬ (7 : Int32) ≤ nI k from nI_ge (b := 7) (by omega) (by omega)), if_pos hx, ald7 (by omega), nm_s, nm_s, nI_1]
    exact ih (k + 1) j _ (by omega) (by omega)
theorem sta_pos (fu : Nat) (t : MS) {w : Nat} (hw : w < 7) : ∀ (n k fuel : Nat) (acc : Int32), k + n = 7 → n < fuel → g_lp (fun _ _ _ => none) (fX7_status_b25B fu (nI w)) fuel t acc (nI k) = some (if k ≤ w then acc + mgStatuses t w else acc, t) := by
  intro n
  induction n with
  | zero =>
    intro k fuel acc hk hf
    obtain ⟨j, rfl⟩ : ∃ j, fuel = j + 1 := ⟨fuel - 1, by omega⟩
    rw [g_lp_s]
    unfold fX7_status_b25B
    rw [if_pos (show (7 : Int32) ≤ nI k from nI_le (a := 7) (by omega) (by omega)), if_neg (by omega)]
  | succ n ih =>
    intro k fuel acc hk hf
    obtain ⟨j, rfl⟩ : ∃ j, fuel = j + 1 := ⟨fuel - 1, by omega⟩
    rw [g_lp_s]
    unfold fX7_status_b25B
    rw [if_neg (show ¬ (7 : Int32) ≤ nI k from nI_ge (b := 7) (by omega) (by omega)), if_neg (nI_pos (by omega)), nm_s, nm_s, ald7 (by omega), nm_s, nm_s, nI_1]
    by_cases h : k = w
    · subst h
      rw [if_pos rfl, if_pos (Nat.le_refl _)]
      refine (ih (k + 1) j _ (by omega) (by omega)).trans ?_
      rw [if_neg (by omega)]
    · rw [if_neg (fun e => h ((nI_eq (by omega) (by omega)).mp e))]
      refine (ih (k + 1) j _ (by omega) (by omega)).trans ?_
      rw [Int32.add_zero]
      by_cases h2 : k ≤ w
      · rw [if_pos h2, if_pos (by omega)]
      · rw [if_neg h2, if_neg (by omega)]
theorem pr_status {fu : Nat} (hF : 10 ≤ fu) {g : Int32} {o : SS} {h k : PS} {p : TPS} {s : SHS} {t : MS} (hJ : JJ g o h k p s t) (a : Int32) : ∃ r o' t', fX6_status fu g o a = some (r, o') ∧ fX7_status fu t a = some (r, t') ∧ JJ g o' h k p s t' := by
  unfold fX6_status fX7_status
  rw [within_s, bnd_s, tb_if, in_k fu a (-1) 6 (-1) 6 (by decide) (by decide), bnd_s, tb_if]
  by_cases ha : (-1 : Int32) ≤ a ∧ a ≤ 6
  · rw [if_pos ha, if_pos ha]
    by_cases h0 : (0 : Int32) ≤ a
    · rw [if_pos h0]
      obtain ⟨w, hw, rfl⟩ := rngL (n := 6) h0 ha.2 (by decide)
      have e : fX7_status_b25 fu (nI w) t 0 0 = some (mgStatuses t w, t) := by
        refine (sta_pos fu t (w := w) (by omega) 7 0 fu 0 (by omega) (by omega)).trans ?_
        rw [if_pos (by omega), Int32.zero_add]
      rw [ald7 (by omega), e, hJ.1 w (by omega)]
      exact ⟨_, _, _, rfl, rfl, hJ⟩
    · rw [if_neg h0]
      have e : fX7_status_b25 fu a t 0 0 = some (sm (mgStatuses t) 7 0 0, t) := sta_neg fu t (Int32.not_le.mp h0) 7 0 fu 0 (by omega) (by omega)
      rw [e, total_s 7 (by decide) (by omega), sm_c (f' := mgStatuses t) 7 0 0 (fun j _ hj => hJ.1 j (by omega)), bnd_s]
      exact ⟨_, _, _, rfl, rfl, hJ⟩
  · rw [if_neg ha, if_neg ha, f6_0, f7_0]
    exact ⟨_, _, _, rfl, rfl, JJ_f hJ 0 (by decide)⟩
/-! count -/
theorem bc_d : ∀ d, d < 256 → fJ6_bitCount_0f7a4 0 (nI d) = some (nI (pcN (d % 16) + pcN (d / 16))) := by decide +kernel
theorem bc_s (fu : Nat) {d : Nat} (hd : d < 256) : fJ6_bitCount_0f7a4 fu (nI d) = some (nI (pcN (d % 16) + pcN (d / 16))) := bc_d d hd
theorem cnt2 {fu : Nat} (hF : 10 ≤ fu) {x : PS} {t : MS} (h : RP x (mgS t)) (hI : IS (mgS t)) : ∀ (n q fuel fuel' : Nat) (acc : Int32), q + n = vv (mgS t) 0 → n < fuel → n < fuel' → ∃ r, g_lp (fun _ _ => none) (fX1_deedsOfAll_b4B fu x) fuel acc (nI q) = some r ∧ g_lp (fun _ _ _ => none) (fX7_count_b52B fu (nI 2)) fuel' t acc (nI q) = some (r, t) := by
  have h8 := hI.1.2
  intro n
  induction n with
  | zero =>
    intro q fuel fuel' acc hq hf hf'
    obtain ⟨j, rfl⟩ : ∃ j, fuel = j + 1 := ⟨fuel - 1, by omega⟩
    obtain ⟨j', rfl⟩ : ∃ j, fuel' = j + 1 := ⟨fuel' - 1, by omega⟩
    rw [g_lp_s, g_lp_s]
    unfold fX1_deedsOfAll_b4B fX7_count_b52B
    rw [h.1, a53_0, hI.1.1, if_pos (nI_le (by omega) (by omega)), if_pos (nI_le (by omega) (by omega))]
    exact ⟨_, rfl, rfl⟩
  | succ n ih =>
    intro q fuel fuel' acc hq hf hf'
    obtain ⟨j, rfl⟩ : ∃ j, fuel = j + 1 := ⟨fuel - 1, by omega⟩
    obtain ⟨j', rfl⟩ : ∃ j, fuel' = j + 1 := ⟨fuel' - 1, by omega⟩
    obtain ⟨d1, d2, d3, d4⟩ := hI.2.2.2.2.2.2 q (by omega)
    obtain ⟨q1, q2, q3, q4⟩ := h.2.2.2.2 q (by omega)
    have hd2 := d2.2
    have st1 : ∀ K, fX1_deedsOfAll_b4B fu x K acc (nI q) = K (acc + nI (pcN (vv (mgS t) (21 + 4 * q + 1) % 16) + pcN (vv (mgS t) (21 + 4 * q + 1) / 16))) (nI (q + 1)) := by
      intro K
      unfold fX1_deedsOfAll_b4B
      rw [h.1, hI.1.1, if_neg (nI_ge (by omega) (by omega)), ald8 (by omega), q2, d2.1, bc_s fu (by omega), bnd_s, nm_s, nm_s, nI_1]
    have st2 : ∀ K, fX7_count_b52B fu (nI 2) K t acc (nI q) = K t (acc + nI (pcN (vv (mgS t) (21 + 4 * q + 1) % 16) + pcN (vv (mgS t) (21 + 4 * q + 1) / 16))) (nI (q + 1)) := by
      intro K
      unfold fX7_count_b52B
      rw [a53_0, hI.1.1, if_neg (nI_ge (by omega) (by omega)), if_pos (show nI 2 = (2 : Int32) by decide), its1 fu t (by omega), bnd_s, d2.1, ones_s hF (by omega), bnd_s, nm_s, nm_s, nI_1]
    rw [g_lp_s, g_lp_s, st1, st2]
    exact ih (q + 1) j j' _ (by omega) (by omega) (by omega)
theorem cnt3 {fu : Nat} {x : PS} {t : MS} (h : RP x (mgS t)) (hI : IS (mgS t)) : ∀ (n q fuel fuel' : Nat) (acc : Int32), q + n = vv (mgS t) 0 → n < fuel → n < fuel' → ∃ r, g_lp (fun _ _ => none) (fX1_askedOfAll_b4B fu x) fuel acc (nI q) = some r ∧ g_lp (fun _ _ _ => none) (fX7_count_b52B fu (nI 3)) fuel' t acc (nI q) = some (r, t) := by
  have h8 := hI.1.2
  intro n
  induction n with
  | zero =>
    intro q fuel fuel' acc hq hf hf'
    obtain ⟨j, rfl⟩ : ∃ j, fuel = j + 1 := ⟨fuel - 1, by omega⟩
    obtain ⟨j', rfl⟩ : ∃ j, fuel' = j + 1 := ⟨fuel' - 1, by omega⟩
    rw [g_lp_s, g_lp_s]
    unfold fX1_askedOfAll_b4B fX7_count_b52B
    rw [h.1, a53_0, hI.1.1, if_pos (nI_le (by omega) (by omega)), if_pos (nI_le (by omega) (by omega))]
    exact ⟨_, rfl, rfl⟩
  | succ n ih =>
    intro q fuel fuel' acc hq hf hf'
    obtain ⟨j, rfl⟩ : ∃ j, fuel = j + 1 := ⟨fuel - 1, by omega⟩
    obtain ⟨j', rfl⟩ : ∃ j, fuel' = j + 1 := ⟨fuel' - 1, by omega⟩
    obtain ⟨q1, q2, q3, q4⟩ := h.2.2.2.2 q (by omega)
    have st1 : ∀ K, fX1_askedOfAll_b4B fu x K acc (nI q) = K (acc + mgS t (21 + 4 * q + 3)) (nI (q + 1)) := by
      intro K
      unfold fX1_askedOfAll_b4B
      rw [h.1, hI.1.1, if_neg (nI_ge (by omega) (by omega)), ald8 (by omega), q4, nm_s, nm_s, nI_1]
    have st2 : ∀ K, fX7_count_b52B fu (nI 3) K t acc (nI q) = K t (acc + mgS t (21 + 4 * q + 3)) (nI (q + 1)) := by
      intro K
      unfold fX7_count_b52B
      rw [a53_0, hI.1.1, if_neg (nI_ge (by omega) (by omega)), if_neg (show ¬ nI 3 = (2 : Int32) by decide), its3 fu t (by omega), bnd_s, nm_s, nm_s, nI_1]
    rw [g_lp_s, g_lp_s, st1, st2]
    exact ih (q + 1) j j' _ (by omega) (by omega) (by omega)
theorem pr_count {fu : Nat} (hF : 10 ≤ fu) {g : Int32} {o : SS} {h k : PS} {p : TPS} {s : SHS} {t : MS} (hJ : JJ g o h k p s t) (a : Int32) : ∃ r o' t', fX6_count fu g o h p a = some (r, o') ∧ fX7_count fu t a = some (r, t') ∧ JJ g o' h k p s t' := by
  obtain ⟨hR, hI⟩ := hJ.2.1
  have h8 := hI.1.2
  unfold fX6_count fX7_count
  by_cases a0 : a = 0
  · subst a0
    rw [if_pos rfl, if_pos rfl]
    unfold fX7_count_b9
    rw [if_pos rfl, a53_0, hR.1]
    exact ⟨_, _, _, rfl, rfl, hJ⟩
  · rw [if_neg a0, if_neg a0]
    by_cases a1 : a = 1
    · subst a1
      rw [if_pos rfl, if_pos rfl]
      unfold fX7_count_b9
      obtain ⟨n, h1, h2, h3, h4⟩ := hJ.2.2.2.1
      rw [if_neg (by decide), h2, h3]
      exact ⟨_, _, _, rfl, rfl, hJ⟩
    · rw [if_neg a1, if_neg a1, in_k fu a 2 3 2 3 (by decide) (by decide), bnd_s, tb_if]
      by_cases a2 : a = 2
      · subst a2
        obtain ⟨r, e1, e2⟩ := cnt2 hF hR hI (vv (mgS t) 0) 0 fu fu 0 (by omega) (by omega) (by omega)
        have f1 : fX1_deedsOfAll fu h = some r := e1
        have f2 : fX7_count_b52 fu 2 t 0 0 = some (r, t) := e2
        rw [if_pos rfl, f1, bnd_s, if_pos (by decide), f2]
        exact ⟨_, _, _, rfl, rfl, hJ⟩
      · rw [if_neg a2]
        by_cases a3 : a = 3
        · subst a3
          obtain ⟨r, e1, e2⟩ := cnt3 (fu := fu) hR hI (vv (mgS t) 0) 0 fu fu 0 (by omega) (by omega) (by omega)
          have f1 : fX1_askedOfAll fu h = some r := e1
          have f2 : fX7_count_b52 fu 3 t 0 0 = some (r, t) := e2
          rw [if_pos rfl, f1, bnd_s, if_pos (by decide), f2]
          exact ⟨_, _, _, rfl, rfl, hJ⟩
        · rw [if_neg a3]
          have no : ¬ ((2 : Int32) ≤ a ∧ a ≤ 3) := by
            rintro ⟨b1, b2⟩
            rw [Int32.le_iff_toInt_le] at b1 b2
            have e2 : (2 : Int32).toInt = 2 := by decide
            have e3 : (3 : Int32).toInt = 3 := by decide
            have c2 : a.toInt ≠ 2 := fun e => a2 (Int32.toInt_inj.mp (e.trans e2.symm))
            have c3 : a.toInt ≠ 3 := fun e => a3 (Int32.toInt_inj.mp (e.trans e3.symm))
            omega
          rw [if_neg no, f6_0, f7_0]
          exact ⟨_, _, _, rfl, rfl, JJ_f hJ 0 (by decide)⟩
/-! days -/
def dyN : Nat → SS → SS
  | 0, s => s
  | n + 1, s => dyN n (dayN s)
theorem IS_dyN : ∀ (n : Nat) {s : SS}, IS s → IS (dyN n s) ∧ vv (dyN n s) 0 = vv s 0 := by
  intro n
  induction n with
  | zero => intro s h; exact ⟨h, rfl⟩
  | succ n ih =>
    intro s h
    obtain ⟨a, b⟩ := IS_dayN h
    obtain ⟨c, d⟩ := ih a
    exact ⟨c, d.trans b⟩
theorem ms_dd (t : MS) (a b : SS) (c d : Int32) : msDryNow (msS (msDryNow (msS t a) c) b) d = msDryNow (msS t b) d := rfl
theorem mgS_d (t : MS) (a : SS) (c : Int32) : mgS (msDryNow (msS t a) c) = a := rfl
theorem goes_l {fu : Nat} (hF : 10 ≤ fu) (N : Nat) (hN : N < 2 ^ 31) : ∀ (n q fuel : Nat) (t : MS), q + n = N → n < fuel → IS (mgS t) → ∃ d, g_lp (fun _ _ => none) (fX7_goesOn_b2B fu (nI N)) fuel t (nI q) = some (msDryNow (msS t (dyN n (mgS t))) d) := by
  intro n
  induction n with
  | zero =>
    intro q fuel t hq hf hI
    obtain ⟨j, rfl⟩ : ∃ j, fuel = j + 1 := ⟨fuel - 1, by omega⟩
    rw [g_lp_s]
    unfold fX7_goesOn_b2B
    rw [if_pos (nI_le (by omega) (by omega))]
    exact ⟨mgDryNow t, rfl⟩
  | succ n ih =>
    intro q fuel t hq hf hI
    obtain ⟨j, rfl⟩ : ∃ j, fuel = j + 1 := ⟨fuel - 1, by omega⟩
    have st : ∀ K, fX7_goesOn_b2B fu (nI N) K t (nI q) = K (msDryNow (msS t (dayN (mgS t))) (dayD (mgS t))) (nI (q + 1)) := by
      intro K
      unfold fX7_goesOn_b2B
      rw [if_neg (nI_ge (by omega) (by omega)), day_s hF t hI, bnd_s, nm_s, nI_1]
    obtain ⟨d, e⟩ := ih (q + 1) j (msDryNow (msS t (dayN (mgS t))) (dayD (mgS t))) (by omega) (by omega) (IS_dayN hI).1
    rw [mgS_d, ms_dd] at e
    rw [g_lp_s, st, e]
    exact ⟨d, rfl⟩
theorem goesOn_s {fu : Nat} (hF : 10 ≤ fu) {N : Nat} (hN : N < fu) (hN2 : N < 2 ^ 31) (t : MS) (hI : IS (mgS t)) : ∃ d, fX7_goesOn fu t (nI N) = some (msDryNow (msS t (dyN N (mgS t))) d) := goes_l hF N hN2 N 0 fu t (by omega) hN hI
theorem days_l {fu : Nat} (hF : 10 ≤ fu) (g : Int32) (o : SS) (N : Nat) (hN : N < 2 ^ 31) : ∀ (n q fuel : Nat) (x : PS) (s : SS), q + n = N → n < fuel → RP x s → IS s → ∃ x', g_lp (fun _ _ _ => none) (fX6_days_b39B fu g (nI N)) fuel o x (nI q) = some (sm (fr (dyN n s) 2) 4 0 0, o, x') ∧ RP x' (dyN n s) := by
  intro n
  induction n with
  | zero =>
    intro q fuel x s hq hf hR hI
    obtain ⟨j, rfl⟩ : ∃ j, fuel = j + 1 := ⟨fuel - 1, by omega⟩
    rw [g_lp_s]
    unfold fX6_days_b39B
    rw [if_pos (nI_le (by omega) (by omega)), tot_thirst hF hR, bnd_s]
    exact ⟨_, rfl, hR⟩
  | succ n ih =>
    intro q fuel x s hq hf hR hI
    obtain ⟨j, rfl⟩ : ∃ j, fuel = j + 1 := ⟨fuel - 1, by omega⟩
    obtain ⟨x1, a1, a2, a3⟩ := pass_s hF hR hI
    rw [g_lp_s]
    unfold fX6_days_b39B
    rw [if_neg (nI_ge (by omega) (by omega)), a1, bnd_s, nm_s, nI_1]
    exact ih (q + 1) j x1 (dayN s) (by omega) (by omega) a2 (IS_dayN hI).1
theorem JJ_dS {g : Int32} {o : SS} {h k : PS} {p : TPS} {s : SHS} {t : MS} (hJ : JJ g o h k p s t) {h' : PS} {s' : SS} (d : Int32) (h1 : RP h' s') (h2 : IS s') : JJ g o h' k p s (msDryNow (msS t s') d) := ⟨hJ.1, ⟨h1, h2⟩, hJ.2.2.1, hJ.2.2.2.1, hJ.2.2.2.2⟩
theorem rng1 {x : Int32} {n : Nat} (h : (1 : Int32) ≤ x ∧ x ≤ nI n) (hn : n < 2 ^ 31) : ∃ j, 1 ≤ j ∧ j ≤ n ∧ x = nI j := by
  have h0 : (0 : Int32) ≤ x := by
    have := h.1
    rw [Int32.le_iff_toInt_le] at this ⊢
    have e1 : (1 : Int32).toInt = 1 := by decide
    have e0 : (0 : Int32).toInt = 0 := by decide
    omega
  obtain ⟨j, hj, rfl⟩ := rngL h0 h.2 hn
  exact ⟨j, (nI_leI (a := 1) (by decide) (by omega)).mp h.1, hj, rfl⟩
theorem pr_days {fu : Nat} (hF : 5000 ≤ fu) {g : Int32} {o : SS} {h k : PS} {p : TPS} {s : SHS} {t : MS} (hJ : JJ g o h k p s t) (a : Int32) : ∃ r o' h' t', fX6_days fu g o h a = some (r, o', h') ∧ fX7_days fu t a = some (r, t') ∧ JJ g o' h' k p s t' := by
  obtain ⟨hR, hI⟩ := hJ.2.1
  unfold fX6_days fX7_days
  rw [within_s, bnd_s, tb_if, in_k fu a 1 60 1 60 (by decide) (by decide), bnd_s, tb_if]
  by_cases ha : (1 : Int32) ≤ a ∧ a ≤ 60
  · obtain ⟨n, hn1, hn2, rfl⟩ := rng1 (n := 60) ha (by decide)
    rw [if_pos ha, if_pos ha, a53_1, hR.2.1]
    by_cases hd : mgS t 1 + nI n ≤ 9999
    · obtain ⟨x', e1, e2⟩ := days_l (fu := fu) (by omega) g o n (by omega) n 0 fu h (mgS t) (by omega) (by omega) hR hI
      obtain ⟨d, e3⟩ := goesOn_s (fu := fu) (by omega) (N := n) (by omega) (by omega) t hI
      have f1 : fX6_days_b39 fu g (nI n) o h 0 = some (sm (fr (dyN n (mgS t)) 2) 4 0 0, o, x') := e1
      have f2 : fX7_together fu (msDryNow (msS t (dyN n (mgS t))) d) (2 : Int32) = some (sm (fr (dyN n (mgS t)) 2) 4 0 0) := together_s (by omega) (msDryNow (msS t (dyN n (mgS t))) d) (w := 2) (by decide)
      rw [if_pos hd, if_pos hd, f1, e3, bnd_s, f2, bnd_s]
      exact ⟨_, _, _, _, rfl, rfl, JJ_dS hJ d e2 (IS_dyN n hI).1⟩
    · rw [if_neg hd, if_neg hd, f6_4, f7_4]
      exact ⟨_, _, _, _, rfl, rfl, JJ_f hJ 4 (by decide)⟩
  · rw [if_neg ha, if_neg ha, f6_0, f7_0]
    exact ⟨_, _, _, _, rfl, rfl, JJ_f hJ 0 (by decide)⟩
theorem pr_now {fu : Nat} (hF : 10 ≤ fu) {g : Int32} {o : SS} {h k : PS} {p : TPS} {s : SHS} {t : MS} (hJ : JJ g o h k p s t) (a : Int32) : ∃ r o' t', fX6_now fu g o h a = some (r, o') ∧ fX7_now fu t a = some (r, t') ∧ JJ g o' h k p s t' := by
  obtain ⟨hR, hI⟩ := hJ.2.1
  unfold fX6_now fX7_now
  by_cases a0 : a = 0
  · subst a0
    rw [if_pos rfl, if_pos rfl, show (1 : Int32) + 0 = 1 by decide, a53_1, hR.2.1]
    exact ⟨_, _, _, rfl, rfl, hJ⟩
  rw [if_neg a0, if_neg a0]
  by_cases a1 : a = 1
  · subst a1
    rw [if_pos rfl, if_pos rfl, show (1 : Int32) + 1 = 2 by decide, a53_2, a3_0, hR.2.2.1 0 (by decide)]
    exact ⟨_, _, _, rfl, rfl, hJ⟩
  rw [if_neg a1, if_neg a1]
  by_cases a2 : a = 2
  · subst a2
    rw [if_pos rfl, if_pos rfl, show (1 : Int32) + 2 = 3 by decide, a53_3, a3_1, hR.2.2.1 1 (by decide)]
    exact ⟨_, _, _, rfl, rfl, hJ⟩
  rw [if_neg a2, if_neg a2]
  by_cases a3 : a = 3
  · subst a3
    rw [if_pos rfl, if_pos rfl, show (1 : Int32) + 3 = 4 by decide, a53_4, a3_2, hR.2.2.1 2 (by decide)]
    exact ⟨_, _, _, rfl, rfl, hJ⟩
  rw [if_neg a3, if_neg a3]
  by_cases a4 : a = 4
  · subst a4
    rw [if_pos rfl, if_pos rfl, tot_store hF hR, bnd_s, l1, together_s hF t (by decide), bnd_s]
    exact ⟨_, _, _, rfl, rfl, hJ⟩
  rw [if_neg a4, if_neg a4]
  by_cases a5 : a = 5
  · subst a5
    rw [if_pos rfl, if_pos rfl, tot_thirst hF hR, bnd_s, l2, together_s hF t (by decide), bnd_s]
    exact ⟨_, _, _, rfl, rfl, hJ⟩
  rw [if_neg a5, if_neg a5]
  by_cases a6 : a = 6
  · subst a6
    rw [if_pos rfl, if_pos rfl, tot_need hF hR, bnd_s, l0, together_s hF t (by decide), bnd_s]
    exact ⟨_, _, _, rfl, rfl, hJ⟩
  rw [if_neg a6, if_neg a6, f6_0, f7_0]
  exact ⟨_, _, _, rfl, rfl, JJ_f hJ 0 (by decide)⟩
