/-! thirst never falls -/
def thN (s : SS) : Nat := vv s (5 + 4 * 0 + 2) + vv s (5 + 4 * 1 + 2) + vv s (5 + 4 * 2 + 2) + vv s (5 + 4 * 3 + 2)
theorem sm_th {s : SS} (hI : IS s) : sm (fr s 2) 4 0 0 = nI (thN s) := by
  have e : ∀ f, f < 4 → fr s 2 f = nI (vv s (5 + 4 * f + 2)) := fun f hf => (hI.2.2.2.2.2.1 f hf).2.2.1.1
  show (((0 : Int32) + fr s 2 0) + fr s 2 1) + fr s 2 2 + fr s 2 3 = _
  rw [e 0 (by decide), e 1 (by decide), e 2 (by decide), e 3 (by decide), l0, nI_add, nI_add, nI_add, nI_add]
  unfold thN
  rw [Nat.zero_add]
theorem thN_le {s : SS} (hI : IS s) : thN s ≤ 39996 := by
  have a := (hI.2.2.2.2.2.1 0 (by decide)).2.2.1.2
  have b := (hI.2.2.2.2.2.1 1 (by decide)).2.2.1.2
  have c := (hI.2.2.2.2.2.1 2 (by decide)).2.2.1.2
  have d := (hI.2.2.2.2.2.1 3 (by decide)).2.2.1.2
  unfold thN
  omega
/-- one state's thirst is another's at least -/
def thL (s s' : SS) : Prop := ∀ f, f < 4 → vv s (5 + 4 * f + 2) ≤ vv s' (5 + 4 * f + 2)
theorem thL_r (s : SS) : thL s s := fun _ _ => Nat.le_refl _
theorem thL_t {a b c : SS} (h : thL a b) (g : thL b c) : thL a c := fun f hf => Nat.le_trans (h f hf) (g f hf)
theorem thL_n {a b : SS} (h : thL a b) : thN a ≤ thN b := by
  have q0 := h 0 (by decide)
  have q1 := h 1 (by decide)
  have q2 := h 2 (by decide)
  have q3 := h 3 (by decide)
  unfold thN
  omega
theorem thL_u (s : SS) {k : Nat} (v : Int32) (hk : ∀ f, f < 4 → 5 + 4 * f + 2 ≠ k) : thL s (upd s k v) := by
  intro f hf
  rw [vv_un _ _ (hk f hf)]
  exact Nat.le_refl _
theorem thL_pul (s : SS) (p f : Nat) : thL s (pulN s p f) := by
  unfold pulN
  exact thL_t (thL_u s _ (by intros; omega)) (thL_t (thL_u _ _ (by intros; omega)) (thL_u _ _ (by intros; omega)))
theorem thL_stA (s : SS) (f : Nat) : thL s (stA s f) := by
  unfold stA
  split
  · exact thL_r s
  · exact thL_pul s _ f
theorem thL_dA : ∀ (n f : Nat) (s : SS), thL s (dA n f s) := by
  intro n
  induction n with
  | zero => intro f s; exact thL_r s
  | succ n ih => intro f s; exact thL_t (thL_stA s f) (ih (f + 1) _)
theorem thL_use {s : SS} (hI : IS s) {f : Nat} (hf : f < 4) : thL s (useN s f) := by
  have hc := (hI.2.2.2.2.2.1 f hf).2.2.1.2
  unfold useN
  split
  · intro g hg
    by_cases e : g = f
    · subst e
      rw [vv_us _ _ (by omega)]
      omega
    · rw [vv_un _ _ (by omega), vv_un _ _ (by omega)]
      exact Nat.le_refl _
  · exact thL_u _ _ (by intros; omega)
theorem thL_uA : ∀ (n f : Nat) {s : SS}, IS s → f + n ≤ 4 → thL s (uA n f s) := by
  intro n
  induction n with
  | zero => intro f s _ _; exact thL_r s
  | succ n ih => intro f s hI hf; exact thL_t (thL_use hI (f := f) (by omega)) (ih (f + 1) (IS_use hI (f := f) (by omega)) (by omega))
theorem thL_per (s : SS) (p : Nat) : thL s (perN s p) := by
  unfold perN
  exact thL_t (thL_u s _ (by intros; omega)) (thL_u _ _ (by intros; omega))
theorem thL_eA : ∀ (n p : Nat) (s : SS), thL s (eA n p s) := by
  intro n
  induction n with
  | zero => intro f s; exact thL_r s
  | succ n ih => intro f s; exact thL_t (thL_per s f) (ih (f + 1) _)
theorem thL_fin (s : SS) : thL s (finN s) := by
  unfold finN
  exact thL_t (thL_u s _ (by intros; omega)) (thL_u _ _ (by intros; omega))
theorem thL_day {s : SS} (hI : IS s) : thL s (dayN s) := by
  obtain ⟨a1, a2⟩ := IS_dA 4 0 hI (by omega)
  unfold dayN
  exact thL_t (thL_dA 4 0 s) (thL_t (thL_uA 4 0 a1 (by omega)) (thL_t (thL_eA _ 0 _) (thL_fin _)))
theorem thL_dy : ∀ (n : Nat) {s : SS}, IS s → thL s (dyN n s) := by
  intro n
  induction n with
  | zero => intro s _; exact thL_r s
  | succ n ih => intro s hI; exact thL_t (thL_day hI) (ih (IS_dayN hI).1)
def dryN (n : Nat) (s : SS) : Nat := thN (dyN n s) - thN s
theorem dryN_le (n : Nat) {s : SS} (hI : IS s) : dryN n s ≤ 39996 := by
  have := thN_le (IS_dyN n hI).1
  unfold dryN
  omega
/-! the reference's state, but for what is laid aside -/
def NF (t : MS) (s a : SS) (d : Int32) (e : SS) : MS := msSent (msDryNow (msAside (msS t s) a) d) e
theorem NF_id (t : MS) : NF t (mgS t) (mgAside t) (mgDryNow t) (mgSent t) = t := rfl
theorem NF_u (t : MS) (s a : SS) (d : Int32) (e : SS) (k : Nat) (v : Int32) : muS (NF t s a d e) k v = NF t (upd s k v) a d e := rfl
theorem NF_ue (t : MS) (s a : SS) (d : Int32) (e : SS) (k : Nat) (v : Int32) : muSent (NF t s a d e) k v = NF t s a d (upd e k v) := rfl
theorem NF_S (t : MS) (s a : SS) (d : Int32) (e : SS) : mgS (NF t s a d e) = s := rfl
theorem NF_e (t : MS) (s a : SS) (d : Int32) (e : SS) : mgSent (NF t s a d e) = e := rfl
theorem NF_J {g : Int32} {o : SS} {h k : PS} {p : TPS} {s : SHS} {t : MS} (hJ : JJ g o h k p s t) (a : SS) (d : Int32) (e : SS) : JJ g o h k p s (NF t (mgS t) a d e) := hJ
theorem NF_la (fu : Nat) (t : MS) (s a : SS) (d : Int32) (e : SS) : fX7_laysAside fu (NF t s a d e) = some (NF t s s d e) := rfl
theorem NF_tb (fu : Nat) (t : MS) (s a : SS) (d : Int32) (e : SS) (v : Int32) : fX7_takesBack fu (NF t s a d e) v = some (v, NF t a a d e) := rfl
theorem NF_go (t : MS) (s a : SS) (d : Int32) (e : SS) (s' : SS) (d' : Int32) : msDryNow (msS (NF t s a d e) s') d' = NF t s' a d' e := rfl
theorem dryOn_s {fu : Nat} (hF : 5000 ≤ fu) (t : MS) {s : SS} (a : SS) (d : Int32) (e : SS) (hI : IS s) {n : Nat} (hn : n ≤ 60) : ∃ d', fX7_dryOn fu (NF t s a d e) (nI n) = some (nI (dryN n s), NF t s s d' e) := by
  obtain ⟨d', g1⟩ := goesOn_s (fu := fu) (by omega) (N := n) (by omega) (by omega) (NF t s s d e) hI
  rw [NF_S, NF_go] at g1
  have t1 : fX7_together fu (NF t s a d e) (2 : Int32) = some (sm (fr s 2) 4 0 0) := together_s (by omega) _ (w := 2) (by decide)
  have t2 : fX7_together fu (NF t (dyN n s) s d' e) (2 : Int32) = some (sm (fr (dyN n s) 2) 4 0 0) := together_s (by omega) _ (w := 2) (by decide)
  refine ⟨d', ?_⟩
  unfold fX7_dryOn
  rw [t1, bnd_s, NF_la, bnd_s, g1, bnd_s, t2, bnd_s, NF_tb, bnd_s, sm_th hI, sm_th (IS_dyN n hI).1, pk_sub (thL_n (thL_dy n hI))]
  rfl
/-! a trial's dry days, given up at a bound -/
theorem dot_l {fu : Nat} (hF : 10 ≤ fu) (g : Int32) (h : PS) (N : Nat) (hN : N < 2 ^ 31) (L : Nat) (hL : L < 2 ^ 31) (B : Nat) : ∀ (n q fuel : Nat) (x : PS) (c : SS), q + n = N → n < fuel → RP x c → IS c → B ≤ thN c → ∃ r x', g_lp (fun _ _ _ => none) (fX6_dryOfTrial_b17B fu g h (nI N) (nI L) (nI B)) fuel x (nI (thN c - B)) (nI q) = some (nI r, x') ∧ r < 2 ^ 31 ∧ (thN (dyN n c) - B < L → r = thN (dyN n c) - B) ∧ (L ≤ thN (dyN n c) - B → L ≤ r) := by
  intro n
  induction n with
  | zero =>
    intro q fuel x c hq hf hR hI hB
    obtain ⟨j, rfl⟩ : ∃ j, fuel = j + 1 := ⟨fuel - 1, by omega⟩
    have ht := thN_le hI
    rw [g_lp_s]
    unfold fX6_dryOfTrial_b17B
    rw [if_pos (nI_le (by omega) (by omega))]
    exact ⟨_, _, rfl, by omega, fun _ => rfl, fun h => h⟩
  | succ n ih =>
    intro q fuel x c hq hf hR hI hB
    obtain ⟨j, rfl⟩ : ∃ j, fuel = j + 1 := ⟨fuel - 1, by omega⟩
    have ht := thN_le hI
    rw [g_lp_s]
    by_cases hb : L ≤ thN c - B
    · unfold fX6_dryOfTrial_b17B
      rw [if_neg (nI_ge (by omega) (by omega)), if_pos (nI_le hb (by omega))]
      have hm := thL_n (thL_dy (n + 1) hI)
      exact ⟨_, _, rfl, by omega, fun z => absurd z (by omega), fun _ => hb⟩
    · obtain ⟨x1, a1, a2, a3⟩ := pass_s hF hR hI
      have i1 := (IS_dayN hI).1
      have hm := thL_n (thL_day hI)
      have st : ∀ K, fX6_dryOfTrial_b17B fu g h (nI N) (nI L) (nI B) K x (nI (thN c - B)) (nI q) = K x1 (nI (thN (dayN c) - B)) (nI (q + 1)) := by
        intro K
        unfold fX6_dryOfTrial_b17B
        rw [if_neg (nI_ge (by omega) (by omega)), if_neg (nI_ge (by omega) (by omega)), a1, bnd_s, tot_thirst hF a2, bnd_s, nm_s, nm_s, nI_1, sm_th i1, pk_sub (by omega)]
      rw [st]
      exact ih (q + 1) j x1 (dayN c) (by omega) (by omega) a2 i1 (by omega)
theorem dot_s {fu : Nat} (hF : 5000 ≤ fu) (g : Int32) {h x : PS} {s c : SS} (hR : RP h s) (hI : IS s) (hR' : RP x c) (hI' : IS c) (hB : thN c = thN s) {n : Nat} (hn : n ≤ 60) {L : Nat} (hL : L < 2 ^ 31) : ∃ r x', fX6_dryOfTrial fu g h x (nI n) (nI L) = some (nI r, x') ∧ r < 2 ^ 31 ∧ (dryN n c < L → r = dryN n c) ∧ (L ≤ dryN n c → L ≤ r) := by
  obtain ⟨r, x', e1, e2, e3, e4⟩ := dot_l (fu := fu) (by omega) g h n (by omega) L hL (thN s) n 0 fu x c (by omega) (by omega) hR' hI' (by omega)
  have e0 : thN c - thN s = 0 := by omega
  rw [e0] at e1
  rw [← hB] at e3 e4
  refine ⟨r, x', ?_, e2, e3, e4⟩
  unfold fX6_dryOfTrial
  rw [tot_thirst (by omega) hR, bnd_s, sm_th hI]
  exact e1
theorem thN_u (s : SS) {k : Nat} (v : Int32) (hk : ∀ f, f < 4 → 5 + 4 * f + 2 ≠ k) : thN (upd s k v) = thN s := by
  unfold thN
  rw [vv_un _ _ (hk 0 (by decide)), vv_un _ _ (hk 1 (by decide)), vv_un _ _ (hk 2 (by decide)), vv_un _ _ (hk 3 (by decide))]
/-! the least of some -/
def am (D : Nat → Nat) : Nat → Nat → Nat → Nat → Nat
  | 0, _, b, _ => b
  | n + 1, q, b, l => if D q < l then am D n (q + 1) q (D q) else am D n (q + 1) b l
theorem am_s (D : Nat → Nat) (n q b l : Nat) : am D (n + 1) q b l = if D q < l then am D n (q + 1) q (D q) else am D n (q + 1) b l := rfl
theorem am_0 (D : Nat → Nat) : ∀ (n q b : Nat), am D n q b 0 = b := by
  intro n
  induction n with
  | zero => intro q b; rfl
  | succ n ih =>
    intro q b
    unfold am
    rw [if_neg (by omega)]
    exact ih (q + 1) b
theorem am_lt (D : Nat → Nat) : ∀ (n q b l N : Nat), q + n ≤ N → b < N → am D n q b l < N := by
  intro n
  induction n with
  | zero => intro q b l N _ hb; exact hb
  | succ n ih =>
    intro q b l N hq hb
    unfold am
    split
    · exact ih (q + 1) q _ N (by omega) (by omega)
    · exact ih (q + 1) b _ N (by omega) hb
theorem ld_l {fu : Nat} (hF : 5000 ≤ fu) (t : MS) (s0 : SS) {i : Nat} (hi : i < 53) (N : Nat) (hN : N < 2 ^ 31) {m : Nat} (hm : m ≤ 60) (hS : ∀ v, v < N → IS (upd s0 i (nI v))) (was : Int32) (e : SS) : ∀ (n q fuel b l : Nat) (x : Int32) (a : SS) (d : Int32), q + n = N → n < fuel → b < q → l < 2 ^ 31 → ∃ a' d', g_lp (fun _ _ _ _ => none) (fX7_leastDry_b17B fu (nI i) (nI N) (nI m) was) fuel (NF t (upd s0 i x) a d e) (nI b) (nI l) (nI q) = some (nI (am (fun v => dryN m (upd s0 i (nI v))) n q b l), NF t (upd s0 i was) a' d' e) := by
  intro n
  induction n with
  | zero =>
    intro q fuel b l x a d hq hf hb hl
    obtain ⟨j, rfl⟩ : ∃ j, fuel = j + 1 := ⟨fuel - 1, by omega⟩
    rw [g_lp_s]
    unfold fX7_leastDry_b17B
    rw [if_pos (nI_le (by omega) (by omega)), in53 hi, nI_clamp (by omega), NF_u, upd_uu]
    exact ⟨_, _, rfl⟩
  | succ n ih =>
    intro q fuel b l x a d hq hf hb hl
    obtain ⟨j, rfl⟩ : ∃ j, fuel = j + 1 := ⟨fuel - 1, by omega⟩
    obtain ⟨d', h1⟩ := dryOn_s hF t a d e (hS q (by omega)) hm
    have hd := dryN_le m (hS q (by omega))
    have ihj := fun b l x a d => ih (q + 1) j b l x a d (by omega) (by omega)
    rw [g_lp_s]
    generalize g_lp (fun _ _ _ _ => none) (fX7_leastDry_b17B fu (nI i) (nI N) (nI m) was) j = K at ihj ⊢
    unfold fX7_leastDry_b17B fX7_leastDry_b57
    rw [if_neg (nI_ge (by omega) (by omega)), in53 hi, nI_clamp (by omega), NF_u, upd_uu, h1, bnd_s]
    unfold am
    show ∃ a' d', (if nI b < 0 then _ else _) = _
    rw [if_neg (nI_pos (by omega))]
    by_cases hc : dryN m (upd s0 i (nI q)) < l
    · rw [if_neg (show ¬ nI l ≤ nI (dryN m (upd s0 i (nI q))) from nI_ge hc (by omega)), if_pos rfl, nm_s, nI_1, if_pos hc]
      exact ihj q _ (nI q) _ d' (by omega) (by omega)
    · rw [if_pos (show nI l ≤ nI (dryN m (upd s0 i (nI q))) from nI_le (by omega) (by omega)), if_neg (fun z => by have := (nI_eq (by omega) (by omega)).mp z; omega), nm_s, nI_1, if_neg hc]
      exact ihj b l (nI q) _ d' (by omega) hl
theorem ld_s {fu : Nat} (hF : 5000 ≤ fu) (t : MS) {i : Nat} (hi : i < 53) (N : Nat) (hN : N < 5000) (hN0 : 0 < N) {m : Nat} (hm : m ≤ 60) (hS : ∀ v, v < N → IS (upd (mgS t) i (nI v))) : ∃ a' d', fX7_leastDry fu t (nI i) (nI N) (nI m) = some (nI (am (fun v => dryN m (upd (mgS t) i (nI v))) N 0 0 1000000), NF t (mgS t) a' d' (mgSent t)) := by
  obtain ⟨fu1, rfl⟩ : ∃ f, fu = f + 1 := ⟨fu - 1, by omega⟩
  obtain ⟨N1, rfl⟩ : ∃ f, N = f + 1 := ⟨N - 1, by omega⟩
  have hd := dryN_le m (hS 0 (by omega))
  obtain ⟨d', h1⟩ := dryOn_s hF t (mgAside t) (mgDryNow t) (mgSent t) (hS 0 (by omega)) hm
  obtain ⟨a', d'', h2⟩ := ld_l (fu := fu1 + 1) hF t (mgS t) hi (N1 + 1) (by omega) hm hS (mgS t i) (mgSent t) N1 1 fu1 0 (dryN m (upd (mgS t) i (nI 0))) (nI 0) (upd (mgS t) i (nI 0)) d' (by omega) (by omega) (by omega) (by omega)
  rw [upd_id (mgS t) i rfl] at h2
  refine ⟨a', d'', ?_⟩
  have st : ∀ K, fX7_leastDry_b17B (fu1 + 1) (nI i) (nI (N1 + 1)) (nI m) (mgS t i) K t (-1) 0 0 = K (NF t (upd (mgS t) i (nI 0)) (upd (mgS t) i (nI 0)) d' (mgSent t)) (nI 0) (nI (dryN m (upd (mgS t) i (nI 0)))) (nI 1) := by
    intro K
    have hu : muS t i (0 : Int32) = NF t (upd (mgS t) i (nI 0)) (mgAside t) (mgDryNow t) (mgSent t) := rfl
    unfold fX7_leastDry_b17B fX7_leastDry_b57
    rw [if_neg (show ¬ nI (N1 + 1) ≤ (0 : Int32) from nI_ge (a := 0) (by omega) (by omega)), in53 hi, nI_clamp (by omega), hu, h1, bnd_s]
    show (if (-1 : Int32) < 0 then _ else _) = _
    rw [if_pos (by decide), if_pos rfl, nm_s]
    rfl
  unfold fX7_leastDry fX7_leastDry_b17
  rw [ald53 hi, g_lp_s, st, h2, am_s, if_pos (show dryN m (upd (mgS t) i (nI 0)) < 1000000 by omega)]
theorem send_l {fu : Nat} (hF : 5000 ≤ fu) (g : Int32) (o : SS) {h : PS} {s : SS} (hR : RP h s) (hI : IS s) {f : Nat} (hf4 : f < 4) {m : Nat} (hm : m ≤ 60) : ∀ (n q fuel b l : Nat) (x : PS), q + n = vv s 0 → n < fuel → l < 2 ^ 31 → ∃ x', g_lp (fun _ _ _ _ _ => none) (fX6_send_b48B fu g h (nI f) (nI m)) fuel o x (nI b) (nI l) (nI q) = some (nI (am (fun v => dryN m (upd s (5 + 4 * f + 3) (nI v))) n q b l), o, x') := by
  have h8 := hI.1.2
  intro n
  induction n with
  | zero =>
    intro q fuel b l x hq hf hl
    obtain ⟨j, rfl⟩ : ∃ j, fuel = j + 1 := ⟨fuel - 1, by omega⟩
    rw [g_lp_s]
    unfold fX6_send_b48B
    rw [hR.1, hI.1.1, if_pos (nI_le (by omega) (by omega))]
    exact ⟨_, rfl⟩
  | succ n ih =>
    intro q fuel b l x hq hf hl
    obtain ⟨j, rfl⟩ : ∃ j, fuel = j + 1 := ⟨fuel - 1, by omega⟩
    have f2 : fX1_become fu x h = some h := rfl
    have i1 : IS (upd s (5 + 4 * f + 3) (nI q)) := IS_sends hI hf4 (Or.inr ⟨q, by omega, rfl⟩)
    obtain ⟨r, x', e1, e2, e3, e4⟩ := dot_s hF g hR hI (RP_uSends hR hf4 (nI q)) i1 (thN_u _ _ (by intros; omega)) hm hl
    have ihj := fun b l x => ih (q + 1) j b l x (by omega) (by omega)
    rw [g_lp_s]
    generalize g_lp (fun _ _ _ _ _ => none) (fX6_send_b48B fu g h (nI f) (nI m)) j = K at ihj ⊢
    unfold fX6_send_b48B
    rw [hR.1, hI.1.1, if_neg (nI_ge (by omega) (by omega)), f2, bnd_s, in4 hf4, nI_clamp (by omega), e1, bnd_s]
    unfold am
    by_cases hc : dryN m (upd s (5 + 4 * f + 3) (nI q)) < l
    · rw [e3 hc, if_neg (show ¬ nI l ≤ nI (dryN m (upd s (5 + 4 * f + 3) (nI q))) from nI_ge hc (by omega)), nm_s, nI_1, if_pos hc]
      exact ihj q _ x' (by omega)
    · rw [if_pos (show nI l ≤ nI r from nI_le (e4 (by omega)) e2), nm_s, nI_1, if_neg hc]
      exact ihj b l x' hl
theorem isSoon_s (fu : Nat) (x : Int32) : fX7_isSoon fu x = some (tb ((1 : Int32) ≤ x ∧ x ≤ 20)) := by
  unfold fX7_isSoon
  rw [in_k fu x 1 20 1 20 (by decide) (by decide), bnd_s, z_tb]
theorem pr_send {fu : Nat} (hF : 5000 ≤ fu) {g : Int32} {o : SS} {h k : PS} {p : TPS} {s : SHS} {t : MS} (hJ : JJ g o h k p s t) (q : PS) (a b : Int32) : ∃ r o' q' t', fX6_send fu g o h q a b = some (r, o', q') ∧ fX7_send fu t a b = some (r, t') ∧ JJ g o' h k p s t' := by
  obtain ⟨hR, hI⟩ := hJ.2.1
  have h8 := hI.1.2
  have fin : ∃ r o' q' t', fX6_send_b17 fu g h o q = some (r, o', q') ∧ fX7_send_b14 fu t = some (r, t') ∧ JJ g o' h k p s t' := by
    unfold fX6_send_b17 fX7_send_b14
    rw [f6_0, f7_0]
    exact ⟨_, _, _, _, rfl, rfl, JJ_f hJ 0 (by decide)⟩
  unfold fX6_send fX7_send
  rw [isFarm6, isFarm7, bnd_s, bnd_s, tb_if, tb_if]
  by_cases ha : (0 : Int32) ≤ a ∧ a ≤ 3
  · rw [if_pos ha, if_pos ha, within_s, bnd_s, tb_if, isSoon_s, bnd_s, tb_if]
    obtain ⟨f, hf, rfl⟩ := rngL (n := 3) ha.1 ha.2 (by decide)
    by_cases hb : (1 : Int32) ≤ b ∧ b ≤ 20
    · obtain ⟨n, hn1, hn2, rfl⟩ := rng1 (n := 20) hb (by decide)
      rw [if_pos hb, if_pos hb, fld3 fu (by omega), bnd_s, a53_0, hR.1, hI.1.1]
      by_cases h0 : vv (mgS t) 0 = 0
      · have e : fX7_leastDry fu t (nI (5 + 4 * f + 3)) (nI 0) (nI n) = some (-1, t) := by
          obtain ⟨fu1, rfl⟩ : ∃ f, fu = f + 1 := ⟨fu - 1, by omega⟩
          unfold fX7_leastDry fX7_leastDry_b17
          rw [ald53 (by omega), g_lp_s]
          unfold fX7_leastDry_b17B
          rw [if_pos (show nI 0 ≤ 0 by decide), in53 (by omega), nI_clamp (by omega)]
          have hu : muS t (5 + 4 * f + 3) (mgS t (5 + 4 * f + 3)) = msS t (upd (mgS t) (5 + 4 * f + 3) (mgS t (5 + 4 * f + 3))) := rfl
          rw [hu, upd_id _ _ rfl, ms_id]
        rw [h0, e, if_pos (show nI 0 = 0 by decide), bnd_s, f6_3]
        show ∃ r o' q' t', _ ∧ (if (0 : Int32) ≤ -1 then _ else _) = _ ∧ _
        rw [if_neg (by decide), f7_3]
        exact ⟨_, _, _, _, rfl, rfl, JJ_f hJ 3 (by decide)⟩
      · obtain ⟨x', e1⟩ := send_l hF g o hR hI (f := f) (by omega) (m := n) (by omega) (vv (mgS t) 0) 0 fu 0 1000000 q (by omega) (by omega) (by omega)
        obtain ⟨a', d', e2⟩ := ld_s hF t (i := 5 + 4 * f + 3) (by omega) (vv (mgS t) 0) (by omega) (by omega) (m := n) (by omega) (fun v hv => IS_sends hI (by omega) (Or.inr ⟨v, hv, rfl⟩))
        have f1 : fX6_send_b48 fu g h (nI f) (nI n) o q 0 1000000 0 = _ := e1
        have hl := am_lt (fun v => dryN n (upd (mgS t) (5 + 4 * f + 3) (nI v))) (vv (mgS t) 0) 0 0 1000000 (vv (mgS t) 0) (by omega) (by omega)
        rw [if_neg (nI_ne0 (by omega) (by omega)), f1, e2, bnd_s]
        show ∃ r o' q' t', _ ∧ (if (0 : Int32) ≤ nI (am (fun v => dryN n (upd (mgS t) (5 + 4 * f + 3) (nI v))) (vv (mgS t) 0) 0 0 1000000) then _ else _) = _ ∧ _
        rw [if_pos (nI_pos' (by omega))]
        exact ⟨_, _, _, _, rfl, rfl, NF_J hJ a' d' (mgSent t)⟩
    · rw [if_neg hb, if_neg hb]; exact fin
  · rw [if_neg ha, if_neg ha]; exact fin
theorem spring_l {fu : Nat} (hF : 5000 ≤ fu) (g : Int32) (o : SS) {h : PS} {s : SS} (hR : RP h s) (hI : IS s) {m : Nat} (hm : m ≤ 60) : ∀ (n q fuel b l : Nat) (x : PS), q + n = 100 → n < fuel → l < 2 ^ 31 → ∃ x', g_lp (fun _ _ _ _ _ => none) (fX6_spring_b24B fu g h (nI m)) fuel o x (nI b) (nI l) (nI q) = some (nI (am (fun v => dryN m (upd s 3 (nI v))) n q b l), o, x') := by
  have w1 : ∀ (K : Int32 → Option (Int32 × SS × PS)), g_ald gMW 3 (1 : Int32) K = K (nI 99) := by
    intro K
    rw [a3_1, mw1]
    rfl
  intro n
  induction n with
  | zero =>
    intro q fuel b l x hq hf hl
    obtain ⟨j, rfl⟩ : ∃ j, fuel = j + 1 := ⟨fuel - 1, by omega⟩
    rw [g_lp_s]
    unfold fX6_spring_b24B
    rw [w1, if_pos (nI_lt (by omega) (by omega))]
    exact ⟨_, rfl⟩
  | succ n ih =>
    intro q fuel b l x hq hf hl
    obtain ⟨j, rfl⟩ : ∃ j, fuel = j + 1 := ⟨fuel - 1, by omega⟩
    have ihj := fun b l x => ih (q + 1) j b l x (by omega) (by omega)
    rw [g_lp_s]
    generalize g_lp (fun _ _ _ _ _ => none) (fX6_spring_b24B fu g h (nI m)) j = K at ihj ⊢
    by_cases hl0 : l = 0
    · subst hl0
      unfold fX6_spring_b24B
      rw [w1, if_neg (nI_nlt (by omega) (by omega)), if_pos (show nI 0 ≤ 0 by decide), am_0]
      exact ⟨_, rfl⟩
    · have f2 : fX1_become fu x h = some h := rfl
      have i1 : IS (upd s 3 (nI q)) := IS_spring hI (by omega)
      obtain ⟨r, x', e1, e2, e3, e4⟩ := dot_s hF g hR hI (show RP (puWater h 1 (nI q)) (upd s 3 (nI q)) from RP_uWater hR (q := 1) (by decide) (nI q)) i1 (thN_u _ _ (by intros; omega)) hm hl
      unfold fX6_spring_b24B
      rw [w1, if_neg (nI_nlt (by omega) (by omega)), if_neg (nI_nle (by omega) hl), f2, bnd_s, show g_in (1 : Int32) 3 = fun (K : Option (Int32 × SS × PS)) => K from funext (fun K => in3 (k := 1) (by decide)), cl1, e1, bnd_s]
      unfold am
      by_cases hc : dryN m (upd s 3 (nI q)) < l
      · rw [e3 hc, if_neg (show ¬ nI l ≤ nI (dryN m (upd s 3 (nI q))) from nI_ge hc (by omega)), nm_s, nI_1, if_pos hc]
        exact ihj q _ x' (by omega)
      · rw [if_pos (show nI l ≤ nI r from nI_le (e4 (by omega)) e2), nm_s, nI_1, if_neg hc]
        exact ihj b l x' hl
theorem pr_spring {fu : Nat} (hF : 5000 ≤ fu) {g : Int32} {o : SS} {h k : PS} {p : TPS} {s : SHS} {t : MS} (hJ : JJ g o h k p s t) (q : PS) (a : Int32) : ∃ r o' q' t', fX6_spring fu g o h q a = some (r, o', q') ∧ fX7_spring fu t a = some (r, t') ∧ JJ g o' h k p s t' := by
  obtain ⟨hR, hI⟩ := hJ.2.1
  unfold fX6_spring fX7_spring
  rw [within_s, bnd_s, tb_if, isSoon_s, bnd_s, tb_if]
  by_cases ha : (1 : Int32) ≤ a ∧ a ≤ 20
  · obtain ⟨n, hn1, hn2, rfl⟩ := rng1 (n := 20) ha (by decide)
    obtain ⟨x', e1⟩ := spring_l hF g o hR hI (m := n) (by omega) 100 0 fu 0 1000000 q (by omega) (by omega) (by omega)
    obtain ⟨a', d', e2⟩ := ld_s hF t (i := 3) (by omega) 100 (by omega) (by omega) (m := n) (by omega) (fun v hv => IS_spring hI (by omega))
    have f1 : fX6_spring_b24 fu g h (nI n) o q 0 1000000 0 = _ := e1
    have f2 : fX7_leastDry fu t 3 100 (nI n) = _ := e2
    rw [if_pos ha, if_pos ha, f1, f2, bnd_s]
    exact ⟨_, _, _, _, rfl, rfl, NF_J hJ a' d' (mgSent t)⟩
  · rw [if_neg ha, if_neg ha, f6_0, f7_0]
    exact ⟨_, _, _, _, rfl, rfl, JJ_f hJ 0 (by decide)⟩
