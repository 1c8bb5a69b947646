/-! rounds -/
def dg (c f : Nat) : Nat := c / 8 ^ (3 - f) % 8
theorem one_s (fu : Nat) {c f : Nat} (hc : c < 4096) (hf : f < 4) : fX1_oneOfRound fu (nI c) (nI f) = some (nI (dg c f)) := by
  have h4 : f = 0 ∨ f = 1 ∨ f = 2 ∨ f = 3 := by omega
  have a7 : ∀ n, n < 4096 → nI n &&& (7 : Int32) = nI (n % 8) := fun n hn => pk_andN (by omega) 3 (by decide)
  unfold fX1_oneOfRound dg
  rcases h4 with rfl | rfl | rfl | rfl
  · rw [pk_shrN (by omega) _ 9 (by decide), a7 _ (by omega)]
  · rw [pk_shrN (by omega) _ 6 (by decide), a7 _ (by omega)]
  · rw [pk_shrN (by omega) _ 3 (by decide), a7 _ (by omega)]
  · rw [pk_shrN (by omega) _ 0 (by decide), a7 _ (by omega)]
theorem dg_lt (c f : Nat) : dg c f < 8 := Nat.mod_lt _ (by decide)
def VP (M c : Nat) : Prop := dg c 0 < M ∧ dg c 1 < M ∧ dg c 2 < M ∧ dg c 3 < M ∧ dg c 0 ≠ dg c 1 ∧ dg c 0 ≠ dg c 2 ∧ dg c 0 ≠ dg c 3 ∧ dg c 1 ≠ dg c 2 ∧ dg c 1 ≠ dg c 3 ∧ dg c 2 ≠ dg c 3
def VB (M c : Nat) : Bool := decide (dg c 0 < M) && (decide (dg c 1 < M) && (decide (dg c 2 < M) && (decide (dg c 3 < M) && (!(dg c 0 == dg c 1) && (!(dg c 0 == dg c 2) && (!(dg c 0 == dg c 3) && (!(dg c 1 == dg c 2) && (!(dg c 1 == dg c 3) && !(dg c 2 == dg c 3)))))))))
theorem VB_P (M c : Nat) : VB M c = true ↔ VP M c := by
  unfold VB VP
  simp
theorem bt_d : ∀ m, m < 256 → ∀ d, d < 8 → (((nI m >>> (nI d &&& (31 : Int32))) &&& (1 : Int32)) = (0 : Int32) ↔ m.testBit d = false) := by decide +kernel
theorem or_b {m : Nat} (hm : m < 256) {d : Nat} (hd : d < 8) : nI m ||| ((1 : Int32) <<< (nI d &&& (31 : Int32))) = nI (m ||| 2 ^ d) ∧ (m ||| 2 ^ d) < 256 := by
  obtain ⟨a, b⟩ := or_d m hm d hd
  exact ⟨a, by omega⟩
theorem ir_st (fu : Nat) {x : PS} {s : SS} (hR : RP x s) (hI : IS s) {c : Nat} (hc : c < 4096) {m f : Nat} (hm : m < 256) (hf : f < 4) (K : Int32 → Int32 → Option Int32) : fX1_isRound_b4B fu x (nI c) K (nI m) (nI f) = if dg c f < vv s 0 ∧ m.testBit (dg c f) = false then K (nI (m ||| 2 ^ dg c f)) (nI (f + 1)) else some 0 := by
  have h8 := hI.1.2
  have hd := dg_lt c f
  unfold fX1_isRound_b4B
  rw [if_neg (show ¬ (4 : Int32) ≤ nI f from nI_ge (b := 4) hf (by decide)), one_s fu hc hf, bnd_s, isThere_s fu hR hI, bnd_s, tb_if, z_0, nm_s, nm_s, nI_1, (or_b hm hd).1]
  have e1 : ((0 : Int32) ≤ nI (dg c f) ∧ nI (dg c f) ≤ s 0 - 1) ↔ dg c f < vv s 0 := by
    rw [hI.1.1, le_pred (by omega), nI_ltI (by omega) (by omega)]
    exact ⟨fun h => h.2, fun h => ⟨nI_pos' (by omega), h⟩⟩
  have e2 := bt_d m hm (dg c f) hd
  by_cases g1 : dg c f < vv s 0
  · rw [if_pos (e1.mpr g1)]
    by_cases g2 : m.testBit (dg c f) = false
    · rw [if_pos (e2.mpr g2), if_pos ⟨g1, g2⟩]
    · rw [if_neg (fun z => g2 (e2.mp z)), if_neg (fun z => g2 z.2)]
  · rw [if_neg (fun z => g1 (e1.mp z)), if_neg (fun z => g1 z.1)]
theorem tb_or (m d j : Nat) : (m ||| 2 ^ d).testBit j = (m.testBit j || decide (d = j)) := by
  rw [Nat.testBit_or, Nat.testBit_two_pow]
theorem ir_s {fu : Nat} (hF : 10 ≤ fu) {x : PS} {s : SS} (hR : RP x s) (hI : IS s) {c : Nat} (hc : c < 4096) : (VP (vv s 0) c ∧ fX1_isRound fu x (nI c) = some 1) ∨ (¬ VP (vv s 0) c ∧ fX1_isRound fu x (nI c) = some 0) := by
  obtain ⟨k, rfl⟩ : ∃ k, fu = k + 5 := ⟨fu - 5, by omega⟩
  have o1 := (or_b (m := 0) (by decide) (dg_lt c 0)).2
  have o2 := (or_b o1 (dg_lt c 1)).2
  have o3 := (or_b o2 (dg_lt c 2)).2
  show (_ ∧ g_lp _ (fX1_isRound_b4B (k + 5) x (nI c)) (k + 5) (nI 0) (nI 0) = _) ∨ (_ ∧ g_lp _ (fX1_isRound_b4B (k + 5) x (nI c)) (k + 5) (nI 0) (nI 0) = _)
  rw [g_lp_s, ir_st (k + 5) hR hI hc (m := 0) (f := 0) (by decide) (by decide), g_lp_s, ir_st (k + 5) hR hI hc (f := 0 + 1) o1 (by decide), g_lp_s, ir_st (k + 5) hR hI hc (f := 0 + 1 + 1) o2 (by decide), g_lp_s, ir_st (k + 5) hR hI hc (f := 0 + 1 + 1 + 1) o3 (by decide), g_lp_s]
  have last : ∀ K y, fX1_isRound_b4B (k + 5) x (nI c) K y (nI (0 + 1 + 1 + 1 + 1)) = some 1 := by
    intro K y
    unfold fX1_isRound_b4B
    rw [if_pos (show (4 : Int32) ≤ nI (0 + 1 + 1 + 1 + 1) by decide), z_1]
  rw [last, tb_or, tb_or, tb_or, tb_or, tb_or, tb_or, Nat.zero_testBit, Nat.zero_testBit, Nat.zero_testBit, Nat.zero_testBit]
  show (VP _ c ∧ (if dg c 0 < vv s 0 ∧ false = false then if dg c 1 < vv s 0 ∧ (false || decide (dg c 0 = dg c 1)) = false then if dg c 2 < vv s 0 ∧ (false || decide (dg c 0 = dg c 2) || decide (dg c 1 = dg c 2)) = false then if dg c 3 < vv s 0 ∧ (false || decide (dg c 0 = dg c 3) || decide (dg c 1 = dg c 3) || decide (dg c 2 = dg c 3)) = false then some 1 else some 0 else some 0 else some 0 else some 0) = some (1 : Int32)) ∨ (¬ VP _ c ∧ (if dg c 0 < vv s 0 ∧ false = false then if dg c 1 < vv s 0 ∧ (false || decide (dg c 0 = dg c 1)) = false then if dg c 2 < vv s 0 ∧ (false || decide (dg c 0 = dg c 2) || decide (dg c 1 = dg c 2)) = false then if dg c 3 < vv s 0 ∧ (false || decide (dg c 0 = dg c 3) || decide (dg c 1 = dg c 3) || decide (dg c 2 = dg c 3)) = false then some 1 else some 0 else some 0 else some 0 else some 0) = some (0 : Int32))
  unfold VP
  by_cases v0 : dg c 0 < vv s 0
  · rw [if_pos ⟨v0, rfl⟩]
    by_cases v1 : dg c 1 < vv s 0 ∧ (false || decide (dg c 0 = dg c 1)) = false
    · rw [if_pos v1]
      by_cases v2 : dg c 2 < vv s 0 ∧ (false || decide (dg c 0 = dg c 2) || decide (dg c 1 = dg c 2)) = false
      · rw [if_pos v2]
        by_cases v3 : dg c 3 < vv s 0 ∧ (false || decide (dg c 0 = dg c 3) || decide (dg c 1 = dg c 3) || decide (dg c 2 = dg c 3)) = false
        · rw [if_pos v3]
          simp at v1 v2 v3
          exact Or.inl ⟨⟨v0, v1.1, v2.1, v3.1, v1.2, v2.2.1, v3.2.1.1, v2.2.2, v3.2.1.2, v3.2.2⟩, rfl⟩
        · rw [if_neg v3]
          refine Or.inr ⟨fun z => v3 ⟨z.2.2.2.1, ?_⟩, rfl⟩
          simp [z.2.2.2.2.2.2.1, z.2.2.2.2.2.2.2.2.1, z.2.2.2.2.2.2.2.2.2]
      · rw [if_neg v2]
        refine Or.inr ⟨fun z => v2 ⟨z.2.2.1, ?_⟩, rfl⟩
        simp [z.2.2.2.2.2.1, z.2.2.2.2.2.2.2.1]
    · rw [if_neg v1]
      refine Or.inr ⟨fun z => v1 ⟨z.2.1, ?_⟩, rfl⟩
      simp [z.2.2.2.2.1]
  · rw [if_neg (fun z => v0 z.1)]
    exact Or.inr ⟨fun z => v0 z.1, rfl⟩
/-- those whom a round sends -/
def sdN (s : SS) (c : Nat) : SS := upd (upd (upd (upd s (5 + 4 * 0 + 3) (nI (dg c 0))) (5 + 4 * 1 + 3) (nI (dg c 1))) (5 + 4 * 2 + 3) (nI (dg c 2))) (5 + 4 * 3 + 3) (nI (dg c 3))
theorem sr_st (fu : Nat) {c f : Nat} (hc : c < 4096) (hf : f < 4) (x : PS) (K : PS → Int32 → Option PS) : fX1_sendRound_b2B fu (nI c) K x (nI f) = K (puSends x f (nI (dg c f))) (nI (f + 1)) := by
  unfold fX1_sendRound_b2B
  rw [if_neg (show ¬ (4 : Int32) ≤ nI f from nI_ge (b := 4) hf (by decide)), one_s fu hc hf, bnd_s, in4 hf, nm_s, nI_1, nI_clamp (by omega)]
theorem sr_s {fu : Nat} (hF : 10 ≤ fu) {x : PS} {s : SS} (hR : RP x s) {c : Nat} (hc : c < 4096) : ∃ x', fX1_sendRound fu x (nI c) = some x' ∧ RP x' (sdN s c) := by
  obtain ⟨k, rfl⟩ : ∃ k, fu = k + 5 := ⟨fu - 5, by omega⟩
  refine ⟨_, ?_, RP_uSends (RP_uSends (RP_uSends (RP_uSends hR (q := 0) (by decide) (nI (dg c 0))) (q := 1) (by decide) (nI (dg c 1))) (q := 2) (by decide) (nI (dg c 2))) (q := 3) (by decide) (nI (dg c 3))⟩
  show g_lp (fun _ _ => none) (fX1_sendRound_b2B (k + 5) (nI c)) (k + 5) x (nI 0) = _
  rw [g_lp_s, sr_st (k + 5) hc (by decide), g_lp_s, sr_st (k + 5) hc (by decide), g_lp_s, sr_st (k + 5) hc (by decide), g_lp_s, sr_st (k + 5) hc (by decide), g_lp_s]
  unfold fX1_sendRound_b2B
  rw [if_pos (show (4 : Int32) ≤ nI (0 + 1 + 1 + 1 + 1) by decide)]
theorem IS_sd {s : SS} (hI : IS s) {c : Nat} (hV : VP (vv s 0) c) : IS (sdN s c) := by
  obtain ⟨v0, v1, v2, v3, -⟩ := hV
  unfold sdN
  refine IS_sends (q := 3) (IS_sends (q := 2) (IS_sends (q := 1) (IS_sends (q := 0) hI (by decide) (Or.inr ⟨_, v0, rfl⟩)) (by decide) (Or.inr ⟨_, ?_, rfl⟩)) (by decide) (Or.inr ⟨_, ?_, rfl⟩)) (by decide) (Or.inr ⟨_, ?_, rfl⟩)
  · rw [vv_un _ _ (by omega)]; exact v1
  · rw [vv_un _ _ (by omega), vv_un _ _ (by omega)]; exact v2
  · rw [vv_un _ _ (by omega), vv_un _ _ (by omega), vv_un _ _ (by omega)]; exact v3
theorem thN_sd (s : SS) (c : Nat) : thN (sdN s c) = thN s := by
  unfold sdN
  rw [thN_u _ _ (by intros; omega), thN_u _ _ (by intros; omega), thN_u _ _ (by intros; omega), thN_u _ _ (by intros; omega)]
def tens (c : Nat) : Nat := dg c 0 + 10 * dg c 1 + 100 * dg c 2 + 1000 * dg c 3
theorem rt_s {fu : Nat} (hF : 10 ≤ fu) {c : Nat} (hc : c < 4096) : fX1_roundInTens fu (nI c) = some (nI (tens c)) := by
  obtain ⟨k, rfl⟩ : ∃ k, fu = k + 5 := ⟨fu - 5, by omega⟩
  have st : ∀ (f a : Nat) (K : Int32 → Int32 → Option Int32), f < 3 → fX1_roundInTens_b4B (k + 5) (nI c) K (nI a) (nI (f + 1)) = K (nI (10 * a + dg c (f + 1))) (nI f) := by
    intro f a K hf
    unfold fX1_roundInTens_b4B
    rw [if_neg (nI_pos (by omega)), one_s (k + 5) hc (by omega), bnd_s, nm_s, nm_s, pk_m1, show (10 : Int32) = nI 10 from rfl, pk_mul, nI_add]
  have st0 : ∀ (a : Nat) (K : Int32 → Int32 → Option Int32), fX1_roundInTens_b4B (k + 5) (nI c) K (nI a) (nI 0) = K (nI (10 * a + dg c 0)) (-1) := by
    intro a K
    unfold fX1_roundInTens_b4B
    rw [if_neg (nI_pos (by omega)), one_s (k + 5) hc (by omega), bnd_s, nm_s, nm_s, show (10 : Int32) = nI 10 from rfl, pk_mul, nI_add]
    rfl
  show g_lp (fun _ _ => none) (fX1_roundInTens_b4B (k + 5) (nI c)) (k + 5) (nI 0) (nI (2 + 1)) = _
  rw [g_lp_s, st 2 0 _ (by decide), g_lp_s, st 1 _ _ (by decide), g_lp_s, st 0 _ _ (by decide), g_lp_s, st0, g_lp_s]
  unfold fX1_roundInTens_b4B tens
  rw [if_pos (by decide)]
  show some (nI (10 * (10 * (10 * (10 * 0 + dg c 3) + dg c 2) + dg c 1) + dg c 0)) = _
  congr 2
  omega
/-! the least of a row of rounds -/
def amL (D : Nat → Nat) : List Nat → Nat → Nat → Nat
  | [], b, _ => b
  | c :: L, b, l => if D c < l then amL D L c (D c) else amL D L b l
theorem amL_0 (D : Nat → Nat) : ∀ (L : List Nat) (b : Nat), amL D L b 0 = b := by
  intro L
  induction L with
  | nil => intro b; rfl
  | cons c L ih =>
    intro b
    unfold amL
    rw [if_neg (by omega)]
    exact ih b
theorem amL_lt (D : Nat → Nat) (N : Nat) : ∀ (L : List Nat) (b l : Nat), (∀ c ∈ L, c < N) → b < N → amL D L b l < N := by
  intro L
  induction L with
  | nil => intro b l _ hb; exact hb
  | cons c L ih =>
    intro b l hL hb
    unfold amL
    split
    · exact ih c _ (fun d hd => hL d (List.mem_cons_of_mem _ hd)) (hL c List.mem_cons_self)
    · exact ih b _ (fun d hd => hL d (List.mem_cons_of_mem _ hd)) hb
def rds (M q n : Nat) : List Nat := (List.range' q n).filter (VB M)
theorem rds_y {M q : Nat} (n : Nat) (h : VP M q) : rds M q (n + 1) = q :: rds M (q + 1) n := by
  unfold rds
  rw [List.range'_succ, List.filter_cons_of_pos ((VB_P M q).mpr h)]
theorem rds_n {M q : Nat} (n : Nat) (h : ¬ VP M q) : rds M q (n + 1) = rds M (q + 1) n := by
  unfold rds
  rw [List.range'_succ, List.filter_cons_of_neg (fun z => h ((VB_P M q).mp z))]
theorem rou6_l {fu : Nat} (hF : 5000 ≤ fu) (g : Int32) (o : SS) {h : PS} {s : SS} (hR : RP h s) (hI : IS s) {m : Nat} (hm : m ≤ 60) : ∀ (n q fuel b l : Nat) (x : PS), q + n = 4096 → n < fuel → l < 2 ^ 31 → ∃ x', g_lp (fun _ _ _ _ _ => none) (fX6_round_b41B fu g h (nI m)) fuel o x (nI b) (nI l) (nI q) = fX6_round_b111 fu g h o x' (nI (amL (fun c => dryN m (sdN s c)) (rds (vv s 0) q n) b l)) := by
  intro n
  induction n with
  | zero =>
    intro q fuel b l x hq hf hl
    obtain ⟨j, rfl⟩ : ∃ j, fuel = j + 1 := ⟨fuel - 1, by omega⟩
    rw [g_lp_s]
    unfold fX6_round_b41B
    rw [if_pos (show (4096 : Int32) ≤ nI q from nI_le (a := 4096) (by omega) (by omega))]
    exact ⟨x, rfl⟩
  | succ n ih =>
    intro q fuel b l x hq hf hl
    obtain ⟨j, rfl⟩ : ∃ j, fuel = j + 1 := ⟨fuel - 1, by omega⟩
    have ihj := fun b l x => ih (q + 1) j b l x (by omega) (by omega)
    rw [g_lp_s]
    generalize g_lp (fun _ _ _ _ _ => none) (fX6_round_b41B fu g h (nI m)) j = K at ihj ⊢
    unfold fX6_round_b41B
    rw [if_neg (show ¬ (4096 : Int32) ≤ nI q from nI_ge (b := 4096) (by omega) (by omega))]
    by_cases hl0 : l = 0
    · subst hl0
      rw [if_pos (show nI 0 ≤ 0 by decide), amL_0]
      exact ⟨x, rfl⟩
    · rw [if_neg (nI_nle (by omega) hl)]
      rcases ir_s (fu := fu) (by omega) hR hI (c := q) (by omega) with ⟨v1, v2⟩ | ⟨v1, v2⟩
      · have f2 : fX1_become fu x h = some h := rfl
        obtain ⟨x1, s1, s2⟩ := sr_s (fu := fu) (by omega) hR (c := q) (by omega)
        obtain ⟨r, x', e1, e2, e3, e4⟩ := dot_s hF g hR hI s2 (IS_sd hI v1) (thN_sd _ _) hm hl
        rw [v2, bnd_s, if_neg (by decide), f2, bnd_s, s1, bnd_s, e1, bnd_s, rds_y n v1]
        unfold amL
        by_cases hc : dryN m (sdN s q) < l
        · rw [e3 hc, if_neg (show ¬ nI l ≤ nI (dryN m (sdN s q)) from nI_ge hc (by omega)), nm_s, nI_1, if_pos hc]
          exact ihj q _ x' (by omega)
        · rw [if_pos (show nI l ≤ nI r from nI_le (e4 (by omega)) e2), nm_s, nI_1, if_neg hc]
          exact ihj b l x' hl
      · rw [v2, bnd_s, if_pos rfl, nm_s, nI_1, rds_n n v1]
        exact ihj b l x hl
/-! the reference's rounds: to the base of the people -/
def mo (M c : Nat) : Nat := 512 * (c / (M * M * M)) + 64 * (c / (M * M) % M) + 8 * (c / M % M) + c % M
def mB (M c : Nat) : Bool := !(c / (M * M * M) == c / (M * M) % M) && (!(c / (M * M * M) == c / M % M) && (!(c / (M * M * M) == c % M) && (!(c / (M * M) % M == c / M % M) && (!(c / (M * M) % M == c % M) && !(c / M % M == c % M)))))
def rdm (M q n : Nat) : List Nat := ((List.range' q n).filter (mB M)).map (mo M)
theorem rds_rdm : ∀ M, M < 9 → rds M 0 4096 = rdm M 0 (M * M * M * M) := by decide +kernel
