/-! bits of ints (begun from kit/laws/BITS) -/
def bt (x : Int32) (i : Nat) : Bool := x.toBitVec.getLsbD i
theorem b_ext {x y : Int32} (h : ∀ i, i < 32 → bt x i = bt y i) : x = y := Int32.toBitVec_inj.mp (BitVec.eq_of_getLsbD_eq (fun i hi => h i hi))
theorem b_and (x y : Int32) (i : Nat) : bt (x &&& y) i = (bt x i && bt y i) := by unfold bt; rw [Int32.toBitVec_and, BitVec.getLsbD_and]
theorem b_255 : ∀ i, i < 32 → bt 255 i = decide (i < 8) := by decide +kernel
theorem s_l : ∀ n, n < 32 → ((nI n &&& 31).toBitVec.smod 32).toNat = n := by decide +kernel
theorem s_u : ∀ n, n < 32 → (((nI n).toUInt32 &&& Int32.toUInt32 31).toBitVec % 32).toNat = n := by decide +kernel
theorem b_ushr (n : Nat) (hn : n < 32) (x : Int32) (i : Nat) : bt ((x.toUInt32 >>> ((nI n).toUInt32 &&& Int32.toUInt32 31)).toInt32) i = bt x (n + i) := by
  show (x.toUInt32 >>> ((nI n).toUInt32 &&& Int32.toUInt32 31)).toBitVec.getLsbD i = x.toUInt32.toBitVec.getLsbD (n + i)
  rw [UInt32.toBitVec_shiftRight]
  show (x.toUInt32.toBitVec >>> (((nI n).toUInt32 &&& Int32.toUInt32 31).toBitVec % 32).toNat).getLsbD i = _
  rw [s_u n hn, BitVec.getLsbD_ushiftRight]
theorem b_sshr (n : Nat) (hn : n < 32) (x : Int32) {i : Nat} (hi : i < 32) : bt (x >>> (nI n &&& 31)) i = if n + i < 32 then bt x (n + i) else bt x 31 := by
  unfold bt
  rw [Int32.toBitVec_shiftRight]
  show (x.toBitVec.sshiftRight ((nI n &&& 31).toBitVec.smod 32).toNat).getLsbD i = _
  rw [s_l n hn, BitVec.getLsbD_sshiftRight, BitVec.msb_eq_getLsbD_last]
  simp [hi]
/-! what is fed -/
theorem byte_eq (x : Int32) {k : Nat} (hk : k < 4) : ((Int32.toUInt32 x >>> (Int32.toUInt32 ((8 : Int32) * nI k) &&& Int32.toUInt32 31)).toInt32) &&& (255 : Int32) = (x >>> (((8 : Int32) * nI k) &&& (31 : Int32))) &&& (255 : Int32) := by
  rw [show (8 : Int32) = nI 8 from rfl, pk_mul]
  apply b_ext
  intro i hi
  rw [b_and, b_and, b_255 i hi, b_ushr _ (by omega), b_sshr _ (by omega) x hi]
  by_cases h : i < 8
  · rw [if_pos (by omega)]
  · rw [decide_eq_false h, Bool.and_false, Bool.and_false]
theorem byte_r (y : Int32) : ∃ b, b < 256 ∧ y &&& (255 : Int32) = nI b := pk_andE y 8 (by decide)
theorem J4_put {p : TPS} {t : MS} {n : Nat} (hn : n < 120) (h1 : tgLength p = nI n) (h2 : mgTaped t = nI n) (h3 : ∀ j, j < n → tgBytes p j = mgTape t j ∧ ∃ b, b < 256 ∧ mgTape t j = nI b) {v : Int32} (hv : ∃ b, b < 256 ∧ v = nI b) : tgLength (tsLength (tuBytes p n v) (nI (n + 1))) = nI (n + 1) ∧ mgTaped (msTaped (muTape t n v) (nI (n + 1))) = nI (n + 1) ∧ ∀ j, j < n + 1 → tgBytes (tsLength (tuBytes p n v) (nI (n + 1))) j = mgTape (msTaped (muTape t n v) (nI (n + 1))) j ∧ ∃ b, b < 256 ∧ mgTape (msTaped (muTape t n v) (nI (n + 1))) j = nI b := by
  refine ⟨rfl, rfl, fun j hj => ?_⟩
  show upd (tgBytes p) n v j = upd (mgTape t) n v j ∧ ∃ b, b < 256 ∧ upd (mgTape t) n v j = nI b
  by_cases e : j = n
  · subst e; rw [pk_us, pk_us]; exact ⟨rfl, hv⟩
  · rw [pk_un e, pk_un e]; exact h3 j (by omega)
theorem feed_l {fu : Nat} (x : Int32) : ∀ (m n fuel fuel' : Nat) (p : TPS) (t : MS), m ≤ 4 → n + m ≤ 120 → m < fuel → m < fuel' → tgLength p = nI n → mgTaped t = nI n → (∀ j, j < n → tgBytes p j = mgTape t j ∧ ∃ b, b < 256 ∧ mgTape t j = nI b) → ∃ p' b, g_lp (fun _ _ => none) (fX4_append_b4B fu x) fuel p (nI m - 1) = some p' ∧ g_lp (fun _ _ => none) (fX7_feed_b41B fu x) fuel' t (nI m - 1) = some (nI (n + m), msTaped (msTape t b) (nI (n + m))) ∧ tgLength p' = nI (n + m) ∧ ∀ j, j < n + m → tgBytes p' j = b j ∧ ∃ c, c < 256 ∧ b j = nI c := by
  intro m
  induction m with
  | zero =>
    intro n fuel fuel' p t hm hn hf hf' h1 h2 h3
    obtain ⟨j, rfl⟩ : ∃ j, fuel = j + 1 := ⟨fuel - 1, by omega⟩
    obtain ⟨j', rfl⟩ : ∃ j, fuel' = j + 1 := ⟨fuel' - 1, by omega⟩
    refine ⟨p, mgTape t, ?_, ?_, h1, h3⟩
    · rw [g_lp_s]
      unfold fX4_append_b4B
      rw [if_pos (by decide)]
    · rw [g_lp_s]
      unfold fX7_feed_b41B
      rw [if_pos (by decide), h2]
      show some (nI n, t) = some (nI n, (_ : MS))
      have e : msTaped (msTape t (mgTape t)) (nI n) = t := by
        rw [← h2]; rfl
      rw [show n + 0 = n from rfl, e]
  | succ m ih =>
    intro n fuel fuel' p t hm hn hf hf' h1 h2 h3
    obtain ⟨j, rfl⟩ : ∃ j, fuel = j + 1 := ⟨fuel - 1, by omega⟩
    obtain ⟨j', rfl⟩ : ∃ j, fuel' = j + 1 := ⟨fuel' - 1, by omega⟩
    have e0 : nI (m + 1) - 1 = nI m := nI_pred m
    obtain ⟨b, hb, hv⟩ := byte_r (x >>> (((8 : Int32) * nI m) &&& (31 : Int32)))
    have em : nI m + (-1) = nI m - 1 := by
      rw [Int32.sub_eq_add_neg]
    have s6 : ∀ K, fX4_append_b4B fu x K p (nI m) = K (tsLength (tuBytes p n (nI b)) (nI (n + 1))) (nI m - 1) := by
      intro K
      unfold fX4_append_b4B
      rw [if_neg (nI_pos (by omega)), h1, if_neg (show ¬ (120 : Int32) ≤ nI n from nI_ge (b := 120) (by omega) (by decide)), in_nI (by omega) (by decide), nm_s, byte_eq x (by omega), hv, nI_clamp (by omega), em]
      show K (tsLength (tuBytes p n (nI b)) (tgLength p + 1)) _ = _
      rw [h1, nI_1]
    have s7 : ∀ K, fX7_feed_b41B fu x K t (nI m) = K (msTaped (muTape t n (nI b)) (nI (n + 1))) (nI m - 1) := by
      intro K
      unfold fX7_feed_b41B
      rw [if_neg (nI_pos (by omega)), h2, in_nI (by omega) (by decide), nm_s, hv, nI_clamp (by omega), em]
      show K (msTaped (muTape t n (nI b)) (mgTaped t + 1)) _ = _
      rw [h2, nI_1]
    obtain ⟨q1, q2, q3⟩ := J4_put (by omega) h1 h2 h3 (v := nI b) ⟨b, hb, rfl⟩
    obtain ⟨p', b', r1, r2, r3, r4⟩ := ih (n + 1) j j' _ _ (by omega) (by omega) (by omega) (by omega) q1 q2 q3
    refine ⟨p', b', ?_, ?_, by rw [r3]; congr 1; omega, fun i hi => r4 i (by omega)⟩
    · rw [e0, g_lp_s, s6]; exact r1
    · rw [e0, g_lp_s, s7, r2, show n + 1 + m = n + (m + 1) by omega]
      rfl
theorem pr_feed {fu : Nat} (hF : 5000 ≤ fu) {g : Int32} {o : SS} {h k : PS} {p : TPS} {s : SHS} {t : MS} (hJ : JJ g o h k p s t) (a b : Int32) : ∃ r o' p' t', fX6_feed fu g o p a b = some (r, o', p') ∧ fX7_feed fu t a b = some (r, t') ∧ JJ g o' h k p' s t' := by
  obtain ⟨n, h1, h2, h3, h4⟩ := hJ.2.2.2.1
  unfold fX6_feed fX7_feed fX4_append
  rw [within_s, bnd_s, tb_if, in_k fu b 1 4 1 4 (by decide) (by decide), bnd_s, tb_if]
  by_cases hb : (1 : Int32) ≤ b ∧ b ≤ 4
  · obtain ⟨m, hm1, hm2, rfl⟩ := rng1 (n := 4) hb (by decide)
    rw [if_pos hb, if_pos hb, h2, h3, nI_add, nm_s, nm_s]
    by_cases hl : n + m ≤ 120
    · obtain ⟨p', b', e1, e2, e3, e4⟩ := feed_l (fu := fu) a m n fu fu p t (by omega) hl (by omega) (by omega) h2 h3 h4
      have f1 : fX4_append_b4 fu a p (nI m - 1) = some p' := e1
      have f2 : fX7_feed_b41 fu a t (nI m - 1) = _ := e2
      rw [if_pos (show nI (n + m) ≤ 120 from nI_le (b := 120) hl (by decide)), if_pos (show nI (n + m) ≤ 120 from nI_le (b := 120) hl (by decide)), f1, bnd_s, f2, e3]
      exact ⟨_, _, _, _, rfl, rfl, hJ.1, hJ.2.1, hJ.2.2.1, ⟨n + m, hl, e3, rfl, e4⟩, hJ.2.2.2.2⟩
    · rw [if_neg (show ¬ nI (n + m) ≤ 120 from nI_ge (a := 120) (by omega) (by omega)), if_neg (show ¬ nI (n + m) ≤ 120 from nI_ge (a := 120) (by omega) (by omega)), f6_1, f7_1]
      exact ⟨_, _, _, _, rfl, rfl, JJ_f hJ 1 (by decide)⟩
  · rw [if_neg hb, if_neg hb, f6_0, f7_0]
    exact ⟨_, _, _, _, rfl, rfl, JJ_f hJ 0 (by decide)⟩
/-! images -/
theorem RP_c {x : PS} {s s' : SS} (h : ∀ j, j < 53 → s j = s' j) (hR : RP x s) : RP x s' := by
  obtain ⟨h1, h2, h3, h4, h5⟩ := hR
  refine ⟨by rw [← h 0 (by omega)]; exact h1, by rw [← h 1 (by omega)]; exact h2, fun j hj => by rw [← h (2 + j) (by omega)]; exact h3 j hj, fun f hf => ?_, fun p hp => ?_⟩
  · rw [← h (5 + 4 * f + 0) (by omega), ← h (5 + 4 * f + 1) (by omega), ← h (5 + 4 * f + 2) (by omega), ← h (5 + 4 * f + 3) (by omega)]
    exact h4 f hf
  · rw [← h (21 + 4 * p + 0) (by omega), ← h (21 + 4 * p + 1) (by omega), ← h (21 + 4 * p + 2) (by omega), ← h (21 + 4 * p + 3) (by omega)]
    exact h5 p hp
theorem IS_c {s s' : SS} (h : ∀ j, j < 53 → s j = s' j) (hI : IS s) : IS s' := by
  obtain ⟨h0, h1, h2, h3, h4, h5, h6⟩ := hI
  have hv : ∀ j, j < 53 → vv s' j = vv s j := fun j hj => by unfold vv; rw [h j hj]
  have ho : ∀ j hi, j < 53 → okv s j hi → okv s' j hi := fun j hi hj ⟨a, b⟩ => ⟨by rw [← h j hj, hv j hj]; exact a, by rw [hv j hj]; exact b⟩
  have h8 := h0.2
  refine ⟨ho _ _ (by omega) h0, trivial, ho _ _ (by omega) h2, ho _ _ (by omega) h3, ho _ _ (by omega) h4, fun f hf => ?_, fun p hp => ?_⟩
  · obtain ⟨a, b, c, d⟩ := h5 f hf
    refine ⟨ho _ _ (by omega) a, ho _ _ (by omega) b, ho _ _ (by omega) c, ?_⟩
    rcases d with d | ⟨d1, d2⟩
    · exact Or.inl (by rw [← h _ (by omega)]; exact d)
    · exact Or.inr ⟨ho _ _ (by omega) d1, by rw [hv _ (by omega), hv 0 (by omega)]; exact d2⟩
  · rw [hv 0 (by omega)] at hp
    obtain ⟨a, b, ⟨c1, c2⟩, d⟩ := h6 p hp
    exact ⟨ho _ _ (by omega) a, ho _ _ (by omega) b, ⟨ho _ _ (by omega) c1, by rw [hv _ (by omega), hv 0 (by omega)]; exact c2⟩, ho _ _ (by omega) d⟩
theorem img_l (fu : Nat) : ∀ (n q fuel : Nat) (t : MS), q + n = 53 → n < fuel → (∀ j, j < q → mgKeptS t j = mgS t j) → ∃ b, (∀ j, j < 53 → b j = mgS t j) ∧ g_lp (fun _ _ => none) (fX7_image_b2B fu) fuel t (nI q) = some (1, msIsKept (msKeptS t b) 1) := by
  intro n
  induction n with
  | zero =>
    intro q fuel t hq hf h
    obtain ⟨j, rfl⟩ : ∃ j, fuel = j + 1 := ⟨fuel - 1, by omega⟩
    refine ⟨mgKeptS t, fun j hj => h j (by omega), ?_⟩
    rw [g_lp_s]
    unfold fX7_image_b2B
    rw [if_pos (show (53 : Int32) ≤ nI q from nI_le (a := 53) (by omega) (by omega)), z_1]
    rfl
  | succ n ih =>
    intro q fuel t hq hf h
    obtain ⟨j, rfl⟩ : ∃ j, fuel = j + 1 := ⟨fuel - 1, by omega⟩
    obtain ⟨b, h1, h2⟩ := ih (q + 1) j (muKeptS t q (mgS t q)) (by omega) (by omega) (fun i hi => by
      show upd (mgKeptS t) q (mgS t q) i = mgS t i
      by_cases e : i = q
      · subst e; exact pk_us
      · rw [pk_un e]; exact h i (by omega))
    refine ⟨b, h1, ?_⟩
    have st : ∀ K, fX7_image_b2B fu K t (nI q) = K (muKeptS t q (mgS t q)) (nI (q + 1)) := by
      intro K
      unfold fX7_image_b2B
      rw [if_neg (show ¬ (53 : Int32) ≤ nI q from nI_ge (b := 53) (by omega) (by decide)), ald53 (by omega), in53 (by omega), nm_s, nI_1, nI_clamp (by omega)]
    rw [g_lp_s, st, h2]
    rfl
theorem pr_image {fu : Nat} (hF : 5000 ≤ fu) {g : Int32} {o : SS} {h k : PS} {p : TPS} {s : SHS} {t : MS} (hJ : JJ g o h k p s t) : ∃ r g' k' t', fX6_image fu g h k = some (r, g', k') ∧ fX7_image fu t = some (r, t') ∧ JJ g' o h k' p s t' := by
  obtain ⟨hR, hI⟩ := hJ.2.1
  obtain ⟨b, h1, h2⟩ := img_l fu 53 0 fu t (by omega) (by omega) (fun j hj => absurd hj (by omega))
  have f2 : fX7_image fu t = some (1, msIsKept (msKeptS t b) 1) := h2
  have f1 : fX6_image fu g h k = some (1, 1, h) := by
    unfold fX6_image
    have f2 : fX1_become fu k h = some h := rfl
    rw [f2, bnd_s, z_1]
  exact ⟨_, _, _, _, f1, f2, hJ.1, hJ.2.1, Or.inr ⟨rfl, rfl, RP_c (fun j hj => (h1 j hj).symm) hR, IS_c (fun j hj => (h1 j hj).symm) hI⟩, hJ.2.2.2.1, hJ.2.2.2.2⟩
theorem und_l (fu : Nat) : ∀ (n q fuel : Nat) (t : MS), q + n = 53 → n < fuel → (∀ j, j < q → mgS t j = mgKeptS t j) → ∃ b, (∀ j, j < 53 → b j = mgKeptS t j) ∧ g_lp (fun _ _ => none) (fX7_undo_b16B fu) fuel t (nI q) = some (b 0, msS t b) := by
  intro n
  induction n with
  | zero =>
    intro q fuel t hq hf h
    obtain ⟨j, rfl⟩ : ∃ j, fuel = j + 1 := ⟨fuel - 1, by omega⟩
    refine ⟨mgS t, fun j hj => h j (by omega), ?_⟩
    rw [g_lp_s]
    unfold fX7_undo_b16B
    rw [if_pos (show (53 : Int32) ≤ nI q from nI_le (a := 53) (by omega) (by omega)), a53_0]
    rfl
  | succ n ih =>
    intro q fuel t hq hf h
    obtain ⟨j, rfl⟩ : ∃ j, fuel = j + 1 := ⟨fuel - 1, by omega⟩
    obtain ⟨b, h1, h2⟩ := ih (q + 1) j (muS t q (mgKeptS t q)) (by omega) (by omega) (fun i hi => by
      show upd (mgS t) q (mgKeptS t q) i = mgKeptS t i
      by_cases e : i = q
      · subst e; exact pk_us
      · rw [pk_un e]; exact h i (by omega))
    refine ⟨b, h1, ?_⟩
    have st : ∀ K, fX7_undo_b16B fu K t (nI q) = K (muS t q (mgKeptS t q)) (nI (q + 1)) := by
      intro K
      unfold fX7_undo_b16B
      rw [if_neg (show ¬ (53 : Int32) ≤ nI q from nI_ge (b := 53) (by omega) (by decide)), ald53 (by omega), in53 (by omega), nm_s, nI_1, nI_clamp (by omega)]
    rw [g_lp_s, st, h2]
    rfl
theorem pr_undo {fu : Nat} (hF : 5000 ≤ fu) {g : Int32} {o : SS} {h k : PS} {p : TPS} {s : SHS} {t : MS} (hJ : JJ g o h k p s t) : ∃ r o' h' t', fX6_undo fu g o h k = some (r, o', h') ∧ fX7_undo fu t = some (r, t') ∧ JJ g o' h' k p s t' := by
  unfold fX6_undo fX7_undo
  rcases hJ.2.2.1 with ⟨h1, h2⟩ | ⟨h1, h2, h3, h4⟩
  · rw [h2, if_pos h1, if_pos rfl, f6_3, f7_3]
    exact ⟨_, _, _, _, rfl, rfl, JJ_f hJ 3 (by decide)⟩
  · obtain ⟨b, b1, b2⟩ := und_l fu 53 0 fu t (by omega) (by omega) (fun j hj => absurd hj (by omega))
    have f2 : fX7_undo_b16 fu t 0 = some (b 0, msS t b) := b2
    have f1 : fX1_become fu h k = some k := rfl
    rw [h1, h2, if_neg (by decide), if_neg (by decide), f1, bnd_s, f2, b1 0 (by omega), ← h3.1]
    have q1 : RP k b := RP_c (fun j hj => (b1 j hj).symm) h3
    have q2 : IS b := IS_c (fun j hj => (b1 j hj).symm) h4
    rw [h1] at hJ
    exact ⟨_, _, _, _, rfl, rfl, JJ_S hJ q1 q2⟩
