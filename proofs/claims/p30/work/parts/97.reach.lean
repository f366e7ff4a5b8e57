/-! what is reached: the least closed set -/
theorem widN_bit (f : Nat → Nat) (a j : Nat) : ∀ n, (widN f a n).testBit j = true ↔ (a.testBit j = true ∨ ∃ k, k < n ∧ a.testBit k = true ∧ (f k).testBit j = true)
  | 0 => ⟨(fun h => Or.inl h), (fun h => h.elim (fun h => h) (fun ⟨k, hk, _⟩ => absurd hk (Nat.not_lt_zero k)))⟩
  | n + 1 => by
    have ih := widN_bit f a j n
    cases hb : a.testBit n
    · rw [widN_f hb, ih]
      refine or_congr Iff.rfl ⟨fun ⟨k, hk, h⟩ => ⟨k, by omega, h⟩, fun ⟨k, hk, h⟩ => ⟨k, ?_, h⟩⟩
      by_cases e : k = n
      · rw [e, hb] at h; exact absurd h.1 (by decide)
      · omega
    · rw [widN_t hb, or_bit, ih]
      constructor
      · rintro ((h | ⟨k, hk, h⟩) | h)
        · exact Or.inl h
        · exact Or.inr ⟨k, by omega, h⟩
        · exact Or.inr ⟨n, by omega, hb, h⟩
      · rintro (h | ⟨k, hk, h⟩)
        · exact Or.inl (Or.inl h)
        · by_cases e : k = n
          · exact Or.inr (by rw [e] at h; exact h.2)
          · exact Or.inl (Or.inr ⟨k, by omega, h⟩)
theorem rch_s (f : Nat → Nat) (s n j : Nat) : (rchN f s (n + 1)).testBit j = true ↔ ((rchN f s n).testBit j = true ∨ ∃ k, k < 7 ∧ (rchN f s n).testBit k = true ∧ (f k).testBit j = true) := widN_bit f (rchN f s n) j 7
theorem rch_up (f : Nat → Nat) (s j : Nat) {n m : Nat} (h : n ≤ m) (hb : (rchN f s n).testBit j = true) : (rchN f s m).testBit j = true := by
  induction m with
  | zero => rw [show n = 0 by omega] at hb; exact hb
  | succ m ih =>
    by_cases e : n = m + 1
    · rw [← e]; exact hb
    · exact (rch_s f s m j).mpr (Or.inl (ih (by omega)))
theorem rch_min {f : Nat → Nat} {s : Nat} {X : Nat → Prop} (h0 : ∀ j, s.testBit j = true → X j) (hc : ∀ k, k < 7 → X k → ∀ j, (f k).testBit j = true → X j) : ∀ n j, (rchN f s n).testBit j = true → X j
  | 0, j, h => h0 j h
  | n + 1, j, h => by
    rcases (rch_s f s n j).mp h with h | ⟨k, hk, h1, h2⟩
    · exact rch_min h0 hc n j h
    · exact hc k hk (rch_min h0 hc n k h1) j h2
set_option maxRecDepth 100000 in
set_option maxHeartbeats 4000000 in
theorem pcs : ∀ a, a < 128 → ∀ b, b < 128 → a ||| b = b → a ≠ b → popc a < popc b := by decide +kernel
theorem pcs7 : ∀ a, a < 128 → popc a ≤ 7 ∧ (a ≠ 0 → 1 ≤ popc a) := by decide +kernel
theorem sub_or {a b : Nat} (h : ∀ j, a.testBit j = true → b.testBit j = true) : a ||| b = b := Nat.eq_of_testBit_eq fun j => by
  rw [Nat.testBit_or]
  cases ha : a.testBit j
  · rw [Bool.false_or]
  · rw [h j ha]; rfl
theorem rch_grow {f : Nat → Nat} (hf : m7 f) {s : Nat} (hs : s < 128) (h0 : s ≠ 0) : ∀ n, rchN f s (n + 1) = rchN f s n ∨ n + 1 ≤ popc (rchN f s n)
  | 0 => Or.inr ((pcs7 s hs).2 h0)
  | n + 1 => by
    rcases rch_grow hf hs h0 n with h | h
    · left
      show wid f (rchN f s (n + 1)) = rchN f s (n + 1)
      rw [h]
      exact h
    · by_cases e : rchN f s (n + 1) = rchN f s n
      · left
        show wid f (rchN f s (n + 1)) = rchN f s (n + 1)
        rw [e]
        exact e
      · right
        have := pcs _ (rchN_lt hf hs n) _ (rchN_lt hf hs (n + 1)) (sub_or (fun j hj => (rch_s f s n j).mpr (Or.inl hj))) (fun z => e z.symm)
        omega
theorem rch_fix {f : Nat → Nat} (hf : m7 f) {s : Nat} (hs : s < 128) (h0 : s ≠ 0) {k j : Nat} (hk : k < 7) (h1 : (rchN f s 7).testBit k = true) (h2 : (f k).testBit j = true) : (rchN f s 7).testBit j = true := by
  have e : rchN f s 8 = rchN f s 7 := by
    rcases rch_grow hf hs h0 7 with h | h
    · exact h
    · have := (pcs7 _ (rchN_lt hf hs 7)).1
      omega
  rw [← e]
  exact (rch_s f s 7 j).mpr (Or.inr ⟨k, hk, h1, h2⟩)
/-! links that go both ways -/
def sym7 (f : Nat → Nat) : Prop := ∀ i j, i < 7 → j < 7 → (f i).testBit j = true → (f j).testBit i = true
theorem bit_lt7 {f : Nat → Nat} (hf : m7 f) {i j : Nat} (hi : i < 7) (h : (f i).testBit j = true) : j < 7 := Classical.byContradiction fun hn => by
  rw [Nat.testBit_lt_two_pow (Nat.lt_of_lt_of_le (show f i < 2 ^ 7 from hf i hi) (Nat.pow_le_pow_right (n := 2) (by decide) (show 7 ≤ j by omega)))] at h
  cases h
theorem rch_pre {f : Nat → Nat} {i k j : Nat} (hi : i < 7) (h : (f i).testBit k = true) : ∀ n, (rchN f (2 ^ k) n).testBit j = true → (rchN f (2 ^ i) (n + 1)).testBit j = true := by
  intro n
  induction n generalizing j with
  | zero =>
    intro hj
    have e : k = j := by
      have hj2 : (2 ^ k).testBit j = true := hj
      rw [Nat.testBit_two_pow, decide_eq_true_eq] at hj2
      exact hj2
    exact (rch_s f _ 0 j).mpr (Or.inr ⟨i, hi, (by show (2 ^ i).testBit i = true; rw [Nat.testBit_two_pow, decide_eq_true rfl]), e ▸ h⟩)
  | succ n ih =>
    intro hj
    rcases (rch_s f _ n j).mp hj with hj | ⟨m, hm, h1, h2⟩
    · exact rch_up f _ j (Nat.le_succ _) (ih hj)
    · exact (rch_s f _ (n + 1) j).mpr (Or.inr ⟨m, hm, ih h1, h2⟩)
theorem rch_sym {f : Nat → Nat} (hf : m7 f) (hs : sym7 f) {i j : Nat} (hi : i < 7) (hj : j < 7) : ∀ n, (rchN f (2 ^ i) n).testBit j = true → (rchN f (2 ^ j) n).testBit i = true := by
  intro n
  induction n generalizing j with
  | zero =>
    intro h
    have h2 : (2 ^ i).testBit j = true := h
    rw [Nat.testBit_two_pow, decide_eq_true_eq] at h2
    show (2 ^ j).testBit i = true
    rw [Nat.testBit_two_pow, decide_eq_true h2.symm]
  | succ n ih =>
    intro h
    rcases (rch_s f _ n j).mp h with h | ⟨m, hm, h1, h2⟩
    · exact rch_up f _ i (Nat.le_succ _) (ih hj h)
    · exact rch_pre hj (hs m j hm hj h2) n (ih hm h1)
theorem clr_bitP {a b j : Nat} : (clr a b).testBit j = true ↔ (a.testBit j = true ∧ ¬ b.testBit j = true) := by
  unfold clr
  rw [Nat.testBit_xor, Nat.testBit_and]
  cases a.testBit j <;> cases b.testBit j <;> decide
theorem brd_bit {f : Nat → Nat} {br i j : Nat} : (brd f br i).testBit j = true ↔ ((rchN f (2 ^ i) br).testBit j = true ∧ i ≠ j) := by
  unfold brd
  rw [clr_bitP, Nat.testBit_two_pow, decide_eq_true_eq]
theorem brd_sym {f : Nat → Nat} (hf : m7 f) (hs : sym7 f) {br i j : Nat} (hi : i < 7) (hj : j < 7) (h : (brd f br i).testBit j = true) : (brd f br j).testBit i = true := by
  rw [brd_bit] at h ⊢
  exact ⟨rch_sym hf hs hi hj br h.1, fun z => h.2 z.symm⟩
theorem lnk_bit {f : Nat → Nat} {a b i j : Nat} (hab : a ≠ b) : (lnk f a b i).testBit j = true ↔ ((f i).testBit j = true ∨ (i = a ∧ j = b) ∨ (i = b ∧ j = a)) := by
  unfold lnk
  by_cases e1 : i = b
  · rw [e1, va_up_self, va_up_ne _ _ (fun z => hab z.symm), or_bit, Nat.testBit_two_pow, decide_eq_true_eq]
    constructor
    · rintro (h | h)
      · exact Or.inl h
      · exact Or.inr (Or.inr ⟨rfl, h.symm⟩)
    · rintro (h | ⟨h, _⟩ | ⟨_, h⟩)
      · exact Or.inl h
      · exact absurd h.symm hab
      · exact Or.inr h.symm
  · rw [va_up_ne _ _ e1]
    by_cases e2 : i = a
    · rw [e2, va_up_self, or_bit, Nat.testBit_two_pow, decide_eq_true_eq]
      constructor
      · rintro (h | h)
        · exact Or.inl h
        · exact Or.inr (Or.inl ⟨rfl, h.symm⟩)
      · rintro (h | ⟨_, h⟩ | ⟨h, _⟩)
        · exact Or.inl h
        · exact Or.inr h.symm
        · exact absurd h hab
    · rw [va_up_ne _ _ e2]
      exact ⟨Or.inl, fun h => h.elim id (fun h => h.elim (fun z => absurd z.1 e2) (fun z => absurd z.1 e1))⟩
theorem lay_bit {S B : Nat → Nat} {set i j : Nat} : ∀ {n : Nat}, (∀ k, k < n → S k ≠ B k) → ((lay S B set n i).testBit j = true ↔ ∃ k, k < n ∧ set.testBit k = true ∧ ((i = S k ∧ j = B k) ∨ (i = B k ∧ j = S k)))
  | 0, _ => ⟨(fun h => by have h2 : Nat.testBit 0 j = true := h; rw [Nat.zero_testBit] at h2; cases h2), (fun ⟨k, hk, _⟩ => absurd hk (Nat.not_lt_zero k))⟩
  | n + 1, hn => by
    have ih := lay_bit (S := S) (B := B) (set := set) (i := i) (j := j) (n := n) (fun k hk => hn k (by omega))
    cases hb : set.testBit n
    · rw [lay_f hb, ih]
      refine ⟨fun ⟨k, hk, h⟩ => ⟨k, by omega, h⟩, fun ⟨k, hk, h⟩ => ⟨k, ?_, h⟩⟩
      by_cases e : k = n
      · rw [e, hb] at h; exact absurd h.1 (by decide)
      · omega
    · rw [lay_t hb, lnk_bit (hn n (by omega)), ih]
      constructor
      · rintro (⟨k, hk, h⟩ | h)
        · exact ⟨k, by omega, h⟩
        · exact ⟨n, by omega, hb, h⟩
      · rintro ⟨k, hk, h⟩
        by_cases e : k = n
        · rw [e] at h; exact Or.inr h.2
        · exact Or.inl ⟨k, by omega, h⟩
