/-! words as numbers to the base 32 -/
def wT : Nat := 36028797018963967
def pv (B : Nat → Nat) (q : Nat) : Nat → Nat
  | 0 => 0
  | n + 1 => if pv B q n ≤ wT then 32 * pv B q n + (B (q + n) - 96) else pv B q n
theorem pv_lt (B : Nat → Nat) (q : Nat) : ∀ n, (∀ j, j < n → B (q + j) < 256) → pv B q n < 2 ^ 61 := by
  intro n
  induction n with
  | zero => intro _; exact (by decide : (0 : Nat) < 2 ^ 61)
  | succ n ih =>
    intro h
    have h1 := ih (fun j hj => h j (by omega))
    have h2 := h n (by omega)
    unfold pv
    split
    · unfold wT at *; omega
    · exact h1
/-- a word's number -/
def cd (w : Nat) : Nat → Nat
  | 0 => 0
  | n + 1 => 32 * cd w n + (wc w n - 96)
theorem pv_cd {B : Nat → Nat} {q w : Nat} (hw : w < 14) : ∀ (m n : Nat), m ≤ wl w → cd w m ≤ wT → (∀ j, j < n → 97 ≤ B (q + j) ∧ B (q + j) ≤ 122) → (pv B q n = cd w m ↔ (n = m ∧ ∀ j, j < m → B (q + j) = wc w j)) := by
  intro m
  induction m with
  | zero =>
    intro n _ _ hb
    cases n with
    | zero => exact ⟨fun _ => ⟨rfl, fun j hj => absurd hj (by omega)⟩, fun _ => rfl⟩
    | succ n =>
      have h1 := hb n (by omega)
      constructor
      · intro h
        exfalso
        have h' : (if pv B q n ≤ wT then 32 * pv B q n + (B (q + n) - 96) else pv B q n) = 0 := h
        split at h'
        · omega
        · unfold wT at *; omega
      · intro h; have := h.1; omega
  | succ m ih =>
    intro n hm hc hb
    have hcw := (wd_c w hw m (by omega)).2
    have hc' : 32 * cd w m + (wc w m - 96) ≤ wT := hc
    cases n with
    | zero =>
      constructor
      · intro h
        exfalso
        have h' : 0 = 32 * cd w m + (wc w m - 96) := h
        omega
      · intro h; have := h.1; omega
    | succ n =>
      have h1 := hb n (by omega)
      have i1 := ih n (by omega) (by omega) (fun j hj => hb j (by omega))
      show (if pv B q n ≤ wT then 32 * pv B q n + (B (q + n) - 96) else pv B q n) = 32 * cd w m + (wc w m - 96) ↔ _
      by_cases hp : pv B q n ≤ wT
      · rw [if_pos hp]
        constructor
        · intro h
          have e1 : pv B q n = cd w m := by omega
          have e2 : B (q + n) = wc w m := by omega
          obtain ⟨i2, i3⟩ := i1.mp e1
          subst i2
          refine ⟨rfl, fun j hj => ?_⟩
          by_cases e : j = n
          · subst e; exact e2
          · exact i3 j (by omega)
        · rintro ⟨h2, h3⟩
          have e0 : n = m := by omega
          have e1 := i1.mpr ⟨e0, fun j hj => h3 j (by omega)⟩
          have e2 := h3 m (by omega)
          subst e0
          omega
      · rw [if_neg hp]
        constructor
        · intro h; omega
        · rintro ⟨h2, h3⟩
          have e0 : n = m := by omega
          have e1 := i1.mpr ⟨e0, fun j hj => h3 j (by omega)⟩
          omega
def wL (B : Nat → Nat) : Nat → Nat → Int64 → Int64
  | 0, _, v => v
  | n + 1, k, v => wL B n (k + 1) (if lg_cmp v (36028797018963967 : Int64) ≤ (0 : Int32) then ((32 : Int64) * v) + (Int32.toInt64 (nI (B k) - (96 : Int32))) else v)
theorem cmp_le (v w : Int64) : (lg_cmp v w ≤ (0 : Int32)) ↔ ¬ w < v := by
  rw [← cmpL_gt, Int32.not_lt]
theorem wL_pv {B : Nat → Nat} {q : Nat} : ∀ (n m : Nat), (∀ j, j < m + n → 97 ≤ B (q + j) ∧ B (q + j) ≤ 122) → wL B n (q + m) (lN (pv B q m)) = lN (pv B q (m + n)) := by
  intro n
  induction n with
  | zero => intro m _; rfl
  | succ n ih =>
    intro m h
    have h1 := h m (by omega)
    have h2 := pv_lt B q m (fun j hj => by have := h j (by omega); omega)
    show wL B n (q + m + 1) (if lg_cmp (lN (pv B q m)) (36028797018963967 : Int64) ≤ (0 : Int32) then ((32 : Int64) * lN (pv B q m)) + (Int32.toInt64 (nI (B (q + m)) - (96 : Int32))) else lN (pv B q m)) = _
    have e : (if lg_cmp (lN (pv B q m)) (36028797018963967 : Int64) ≤ (0 : Int32) then ((32 : Int64) * lN (pv B q m)) + (Int32.toInt64 (nI (B (q + m)) - (96 : Int32))) else lN (pv B q m)) = lN (pv B q (m + 1)) := by
      show _ = lN (if pv B q m ≤ wT then 32 * pv B q m + (B (q + m) - 96) else pv B q m)
      have hc : (lg_cmp (lN (pv B q m)) (36028797018963967 : Int64) ≤ (0 : Int32)) ↔ pv B q m ≤ wT := by
        rw [cmp_le]
        show ¬ lN 36028797018963967 < lN (pv B q m) ↔ _
        rw [pk_lLT (by omega) (by omega)]
        unfold wT
        omega
      by_cases hp : pv B q m ≤ wT
      · rw [if_pos (hc.mpr hp), if_pos hp, show (96 : Int32) = nI 96 from rfl, pk_sub (by omega), nI_l (by omega), show (32 : Int64) = lN 32 from rfl, lN_mul, lN_add]
      · rw [if_neg (fun w => hp (hc.mp w)), if_neg hp]
    rw [e, show q + m + 1 = q + (m + 1) by omega, ih (m + 1) (fun j hj => h j (by omega)), show m + 1 + n = m + (n + 1) by omega]
theorem word_l (fu : Nat) {B : Nat → Nat} {L : Nat} {t : MS} (hT : TAP B L t) (s : SS) (c wr : Int32) {q e : Nat} (hq : q ≤ L) (he : e ≤ L) : ∀ (n k fuel : Nat) (v : Int64), k + n = e → n < fuel → g_lp (fun _ _ => none) (fX7_word_b7B fu (PF t s (nI q) (nI e) c wr)) fuel v (nI k) = some (if wr = 0 ∧ q < L ∧ srt (B q) = 1 then wL B n k v else 0) := by
  have hL := hT.1
  intro n
  induction n with
  | zero =>
    intro k fuel v hk hf
    obtain ⟨j, rfl⟩ : ∃ j, fuel = j + 1 := ⟨fuel - 1, by omega⟩
    rw [g_lp_s]
    unfold fX7_word_b7B
    rw [PF_t, if_pos (nI_le (by omega) (by omega)), PF_w, PF_f, byteAt_s fu hT s _ _ c wr (by omega), bnd_s, isLet_s fu hT, bnd_s, tb_if]
    by_cases h0 : wr = 0
    · rw [if_pos h0]
      by_cases h1 : q < L ∧ srt (B q) = 1
      · rw [if_pos h1, if_pos ⟨h0, h1⟩]; rfl
      · rw [if_neg h1, if_neg (fun w => h1 w.2)]
    · rw [if_neg h0, if_neg (fun w => h0 w.1)]
  | succ n ih =>
    intro k fuel v hk hf
    obtain ⟨j, rfl⟩ : ∃ j, fuel = j + 1 := ⟨fuel - 1, by omega⟩
    have hb := hT.2.2 k (by omega)
    have st : ∀ K, fX7_word_b7B fu (PF t s (nI q) (nI e) c wr) K v (nI k) = K (if lg_cmp v (36028797018963967 : Int64) ≤ (0 : Int32) then ((32 : Int64) * v) + (Int32.toInt64 (nI (B k) - (96 : Int32))) else v) (nI (k + 1)) := by
      intro K
      unfold fX7_word_b7B
      rw [PF_t, if_neg (nI_ge (by omega) (by omega)), PF_b, ald_nI (by omega) (by decide), hb.2, nm_s, nm_s, nm_s, nI_1]
      split <;> rfl
    rw [g_lp_s, st, ih (k + 1) j _ (by omega) (by omega)]
    rfl
def wdv (B : Nat → Nat) (L q : Nat) (wr : Int32) : Int64 := if wr = 0 ∧ q < L ∧ srt (B q) = 1 then lN (pv B q (enq B L q - q)) else 0
theorem word_s {fu : Nat} (hF : 5000 ≤ fu) {B : Nat → Nat} {L : Nat} {t : MS} (hT : TAP B L t) (s : SS) (c wr : Int32) {q : Nat} (hq : q ≤ L) : fX7_word fu (PF t s (nI q) (nI (enq B L q)) c wr) = some (wdv B L q wr) := by
  have hL := hT.1
  have hen : q ≤ enq B L q ∧ enq B L q ≤ L := by
    by_cases h : q < L
    · have := enq_ge B h; omega
    · have : q = L := by omega
      subst this
      rw [enq_L]; omega
  unfold fX7_word
  rw [PF_f, nm_s]
  refine (word_l fu hT s c wr hq hen.2 (enq B L q - q) q fu 0 (by omega) (by omega)).trans ?_
  unfold wdv
  by_cases h : wr = 0 ∧ q < L ∧ srt (B q) = 1
  · rw [if_pos h, if_pos h]
    have hall := enq_all (L := L) (Or.inl rfl) h.2.2
    have e := wL_pv (B := B) (q := q) (enq B L q - q) 0 (fun j hj => srt_let (hall (q + j) (by omega) (by omega)))
    rw [Nat.zero_add] at e
    rw [← e]
    rfl
  · rw [if_neg h, if_neg h]
theorem wdv_w (B : Nat → Nat) (L q : Nat) : wdv B L q 1 = 0 := if_neg (fun w => absurd w.1 (by decide))
theorem cd_d : ∀ w, w < 14 → cd w (wl w) ≤ wT ∧ 0 < cd w (wl w) := by decide +kernel
theorem wdv_c {B : Nat → Nat} {L q w : Nat} (hw : w < 14) {C : Int64} (hC : C = lN (cd w (wl w))) : (lg_cmp (wdv B L q 0) C = 0) ↔ isW B L w q := by
  obtain ⟨c1, c2⟩ := cd_d w hw
  rw [cmpL_eq, hC]
  unfold wdv isW
  by_cases h : q < L ∧ srt (B q) = 1
  · have hall := enq_all (L := L) (Or.inl rfl) h.2
    have hen := enq_ge B h.1
    have hlt : ∀ j, j < enq B L q - q → 97 ≤ B (q + j) ∧ B (q + j) ≤ 122 := fun j hj => srt_let (hall (q + j) (by omega) (by omega))
    have hp := pv_lt B q (enq B L q - q) (fun j hj => by have := hlt j hj; omega)
    rw [if_pos ⟨rfl, h⟩, pk_lEQ (by omega) (by unfold wT at c1; omega), pv_cd hw (wl w) (enq B L q - q) (Nat.le_refl _) c1 hlt]
    exact ⟨fun v => ⟨h.1, h.2, v.1, v.2⟩, fun v => ⟨v.2.2.1, v.2.2.2⟩⟩
  · rw [if_neg (fun v => h v.2)]
    constructor
    · intro v
      have v' : lN 0 = lN (cd w (wl w)) := v
      have := (pk_lEQ (by omega) (by unfold wT at c1; omega)).mp v'
      omega
    · intro v; exact absurd ⟨v.1, v.2.1⟩ h
theorem wdv_0 {B : Nat → Nat} {L q w : Nat} (hw : w < 14) {C : Int64} (hC : C = lN (cd w (wl w))) : ¬ lg_cmp (wdv B L q 1) C = 0 := by
  obtain ⟨c1, c2⟩ := cd_d w hw
  rw [cmpL_eq, hC, wdv_w]
  intro v
  have v' : lN 0 = lN (cd w (wl w)) := v
  have := (pk_lEQ (by omega) (by unfold wT at c1; omega)).mp v'
  omega
theorem C_lazy : (395097 : Int64) = lN (cd 0 (wl 0)) := by decide +kernel
theorem C_kind : (370116 : Int64) = lN (cd 1 (wl 1)) := by decide +kernel
theorem C_stranger : (674915359922 : Int64) = lN (cd 2 (wl 2)) := by decide +kernel
theorem C_sham : (630829 : Int64) = lN (cd 3 (wl 3)) := by decide +kernel
theorem C_priest : (556045940 : Int64) = lN (cd 4 (wl 4)) := by decide +kernel
theorem C_farmer : (202978482 : Int64) = lN (cd 5 (wl 5)) := by decide +kernel
theorem C_farm : (198221 : Int64) = lN (cd 6 (wl 6)) := by decide +kernel
theorem C_well : (759180 : Int64) = lN (cd 7 (wl 7)) := by decide +kernel
theorem C_spring : (654910919 : Int64) = lN (cd 8 (wl 8)) := by decide +kernel
theorem C_did : (4388 : Int64) = lN (cd 9 (wl 9)) := by decide +kernel
theorem C_step : (643248 : Int64) = lN (cd 10 (wl 10)) := by decide +kernel
theorem C_need : (464036 : Int64) = lN (cd 11 (wl 11)) := by decide +kernel
theorem C_has : (8243 : Int64) = lN (cd 12 (wl 12)) := by decide +kernel
theorem C_sends : (20101267 : Int64) = lN (cd 13 (wl 13)) := by decide +kernel
