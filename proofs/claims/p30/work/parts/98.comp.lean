/-! the classes of isShut are what is reached by the chains that are laid -/
def eds (S B P0 P1 : Nat → Nat) (n : Nat) : Prop := ∀ k, k < n → P0 k < 6 ∧ P1 k < 6 ∧ P0 k ≠ P1 k ∧ S k = min (P0 k) (P1 k) ∧ B k = max (P0 k) (P1 k)
theorem eds.mm {S B P0 P1 : Nat → Nat} {n : Nat} (h : eds S B P0 P1 n) {k : Nat} (hk : k < n) : (S k = P0 k ∧ B k = P1 k) ∨ (S k = P1 k ∧ B k = P0 k) := by
  obtain ⟨_, _, _, e1, e2⟩ := h k hk
  omega
theorem eds.isP {S B P0 P1 : Nat → Nat} {n : Nat} (h : eds S B P0 P1 n) : isP S B n := fun k hk => by
  obtain ⟨a, b, _, e1, e2⟩ := h k hk
  omega
theorem eds.ne {S B P0 P1 : Nat → Nat} {n : Nat} (h : eds S B P0 P1 n) : ∀ k, k < n → S k ≠ B k := fun k hk => by
  obtain ⟨a, b, _, e1, e2⟩ := h k hk
  omega
theorem comp_eq {S B P0 P1 : Nat → Nat} {n w set : Nat} {Wt : Nat → Nat} (he : eds S B P0 P1 n) (hset : ∀ k, k < n → (set.testBit k = true ↔ w.testBit k = false)) (hP : PW P0 P1 w n Wt) (hd : dnE P0 P1 w Wt n) {i : Nat} (hi : i < 6) (j : Nat) : (Wt i).testBit j = true ↔ (rchN (lay S B set n) (2 ^ i) 7).testBit j = true := by
  have hm := m7_lay (set := set) he.isP
  have hlb := fun i j => lay_bit (S := S) (B := B) (set := set) (i := i) (j := j) he.ne
  have h2i : (2 : Nat) ^ i < 128 := two_pow7 i (by omega)
  have own : (rchN (lay S B set n) (2 ^ i) 7).testBit i = true := rch_up _ _ i (Nat.zero_le 7) (by show (2 ^ i).testBit i = true; rw [Nat.testBit_two_pow, decide_eq_true rfl])
  constructor
  · intro h
    refine hP.2.2 (fun j => (rchN (lay S B set n) (2 ^ i) 7).testBit j = true) (fun k hk hw => ?_) i j hi h own
    have hs := (hset k hk).mpr hw
    obtain ⟨a, b, _, _, _⟩ := he k hk
    have l1 : (lay S B set n (P0 k)).testBit (P1 k) = true := (hlb _ _).mpr ⟨k, hk, hs, (he.mm hk).elim (fun z => Or.inl ⟨z.1.symm, z.2.symm⟩) (fun z => Or.inr ⟨z.2.symm, z.1.symm⟩)⟩
    have l2 : (lay S B set n (P1 k)).testBit (P0 k) = true := (hlb _ _).mpr ⟨k, hk, hs, (he.mm hk).elim (fun z => Or.inr ⟨z.2.symm, z.1.symm⟩) (fun z => Or.inl ⟨z.1.symm, z.2.symm⟩)⟩
    exact ⟨fun z => rch_fix hm h2i (Nat.ne_of_gt (Nat.two_pow_pos i)) (by omega) z l1, fun z => rch_fix hm h2i (Nat.ne_of_gt (Nat.two_pow_pos i)) (by omega) z l2⟩
  · refine rch_min (X := fun j => (Wt i).testBit j = true) (fun j hj => ?_) (fun k hk hX j hj => ?_) 7 j
    · rw [Nat.testBit_two_pow, decide_eq_true_eq] at hj
      rw [← hj]
      exact (hP.1 i hi).2
    · obtain ⟨m, hm', hs, h⟩ := (hlb k j).mp hj
      have hw := (hset m hm').mp hs
      have e := hd m hm' hw
      obtain ⟨a, b, _, _, _⟩ := he m hm'
      have kj : (k = P0 m ∧ j = P1 m) ∨ (k = P1 m ∧ j = P0 m) := by
        rcases he.mm hm' with ⟨z1, z2⟩ | ⟨z1, z2⟩ <;> rcases h with ⟨h1, h2⟩ | ⟨h1, h2⟩
        · exact Or.inl ⟨by omega, by omega⟩
        · exact Or.inr ⟨by omega, by omega⟩
        · exact Or.inr ⟨by omega, by omega⟩
        · exact Or.inl ⟨by omega, by omega⟩
      rcases kj with ⟨h1, h2⟩ | ⟨h1, h2⟩
      · rw [h1] at hX
        rw [h2, hP.2.1 i _ hi a hX, e]
        exact (hP.1 _ b).2
      · rw [h1] at hX
        rw [h2, hP.2.1 i _ hi b hX, ← e]
        exact (hP.1 _ a).2
theorem comp_eqN {S B P0 P1 : Nat → Nat} {n w set : Nat} {Wt : Nat → Nat} (he : eds S B P0 P1 n) (hset : ∀ k, k < n → (set.testBit k = true ↔ w.testBit k = false)) (hP : PW P0 P1 w n Wt) (hd : dnE P0 P1 w Wt n) {i : Nat} (hi : i < 6) : Wt i = rchN (lay S B set n) (2 ^ i) 7 := Nat.eq_of_testBit_eq fun j => by
  have h := comp_eq he hset hP hd hi j
  cases h1 : (Wt i).testBit j <;> cases h2 : (rchN (lay S B set n) (2 ^ i) 7).testBit j
  · rfl
  · rw [h1, h2] at h; exact absurd (h.mpr rfl) (by decide)
  · rw [h1, h2] at h; exact absurd (h.mp rfl) (by decide)
  · rfl
theorem and0 {a b : Nat} : a &&& b = 0 ↔ ∀ j, a.testBit j = true → ¬ b.testBit j = true := by
  constructor
  · intro h j h1 h2
    have h3 : (a &&& b).testBit j = true := by rw [Nat.testBit_and, h1, h2]; rfl
    rw [h, Nat.zero_testBit] at h3
    cases h3
  · intro h
    refine Nat.eq_of_testBit_eq fun j => ?_
    rw [Nat.zero_testBit, Nat.testBit_and]
    cases h1 : a.testBit j
    · rfl
    · cases h2 : b.testBit j
      · rfl
      · exact absurd h2 (h j h1)
theorem div0 {a m : Nat} : a / 2 ^ m = 0 ↔ ∀ j, m ≤ j → ¬ a.testBit j = true := by
  constructor
  · intro h j hj hb
    have h3 : (a / 2 ^ m).testBit (j - m) = true := by rw [← Nat.shiftRight_eq_div_pow, Nat.testBit_shiftRight, show m + (j - m) = j by omega]; exact hb
    rw [h, Nat.zero_testBit] at h3
    cases h3
  · intro h
    refine Nat.eq_of_testBit_eq fun j => ?_
    rw [Nat.zero_testBit, ← Nat.shiftRight_eq_div_pow, Nat.testBit_shiftRight]
    cases h1 : a.testBit (m + j)
    · rfl
    · exact absurd h1 (h (m + j) (by omega))
/-- what the law asks of a set is what the class asks -/
theorem shut_noLk {S B P0 P1 : Nat → Nat} {n w set : Nat} {Wt g : Nat → Nat} (he : eds S B P0 P1 n) (hset : ∀ k, k < n → (set.testBit k = true ↔ w.testBit k = false)) (hP : PW P0 P1 w n Wt) (hd : dnE P0 P1 w Wt n) (h : ∀ k, k < 6 → Wt k &&& g k = 0) : noLk (lay S B set n) g 6 := fun i hi => by
  show (rchN (lay S B set n) (2 ^ i) 7 &&& g i) / 2 ^ (i + 1) = 0
  rw [← comp_eqN he hset hP hd hi, h i hi, Nat.zero_div]
theorem noLk_shut {S B P0 P1 : Nat → Nat} {n w set : Nat} {Wt g : Nat → Nat} (he : eds S B P0 P1 n) (hset : ∀ k, k < n → (set.testBit k = true ↔ w.testBit k = false)) (hP : PW P0 P1 w n Wt) (hd : dnE P0 P1 w Wt n) (hg0 : ∀ i, i < 6 → ¬ (g i).testBit i = true) (hgs : ∀ i j, i < 6 → j < 6 → (g i).testBit j = true → (g j).testBit i = true) (h : noLk (lay S B set n) g 6) : ∀ k, k < 6 → Wt k &&& g k = 0 := by
  have key : ∀ i, i < 6 → ∀ j, i < j → (Wt i).testBit j = true → ¬ (g i).testBit j = true := fun i hi j hij h1 h2 => by
    have h3 := div0.mp (h i hi) j (by omega)
    rw [← comp_eqN he hset hP hd hi, Nat.testBit_and, h1, h2] at h3
    exact h3 rfl
  refine fun k hk => and0.mpr fun j h1 h2 => ?_
  have hj6 : j < 6 := Classical.byContradiction fun hn => by
    rw [Nat.testBit_lt_two_pow (Nat.lt_of_lt_of_le (show Wt k < 2 ^ 6 from (hP.1 k hk).1) (Nat.pow_le_pow_right (n := 2) (by decide) (show 6 ≤ j by omega)))] at h1
    cases h1
  by_cases e : j = k
  · rw [e] at h2; exact hg0 k hk h2
  · by_cases e2 : k < j
    · exact key k hk j e2 h1 h2
    · have e3 := hP.2.1 k j hk hj6 h1
      exact key j hj6 k (by omega) (by rw [← e3]; exact (hP.1 k hk).2) (hgs k j hk hj6 h2)
theorem popc_le_full : ∀ n, n < 9 → ∀ x, x < 2 ^ n → popc x ≤ popc (2 ^ n - 1) := by decide +kernel
theorem clr_set {n w k : Nat} (hk : k < n) : (clr (2 ^ n - 1) w).testBit k = true ↔ w.testBit k = false := by
  rw [clr_bitP, Nat.testBit_two_pow_sub_one, decide_eq_true hk]
  cases w.testBit k <;> decide
theorem noLk_none {S B g : Nat → Nat} {n : Nat} : noLk (lay S B (clr (2 ^ n - 1) (2 ^ n - 1)) n) g 6 := by
  have e : ∀ m, lay S B (clr (2 ^ n - 1) (2 ^ n - 1)) m = fun _ => 0 := fun m => by
    induction m with
    | zero => rfl
    | succ m ih =>
      have hb : (clr (2 ^ n - 1) (2 ^ n - 1)).testBit m = false := by
        cases h : (clr (2 ^ n - 1) (2 ^ n - 1)).testBit m
        · rfl
        · rw [clr_bitP] at h; exact absurd h.1 h.2
      rw [lay_f hb, ih]
  rw [e n]
  refine fun i hi => div0.mpr fun j hj h => ?_
  rw [Nat.testBit_and, Bool.and_eq_true] at h
  have h2 : j = i := rch_min (f := fun _ => 0) (X := fun j => j = i) (fun j hj => by rw [Nat.testBit_two_pow, decide_eq_true_eq] at hj; exact hj.symm) (fun k _ _ j hj => by
    have h3 : Nat.testBit 0 j = true := hj
    rw [Nat.zero_testBit] at h3
    cases h3) 7 j h.1
  omega
/-- the repair is shut -/
theorem isRep_shut {S B g : Nat → Nat} {n rp : Nat} (h : isRep S B n g 6 rp) : noLk (lay S B (clr (2 ^ n - 1) rp) n) g 6 := by
  rcases h.2.1 with e | e
  · rw [e]; exact noLk_none
  · exact e
/-- .. and none smaller -/
theorem isRep_min {S B g : Nat → Nat} {n rp t : Nat} (hn : n < 9) (h : isRep S B n g 6 rp) (ht : t < 2 ^ n) (hp : popc t < popc rp) : ¬ noLk (lay S B (clr (2 ^ n - 1) t) n) g 6 := by
  refine h.2.2 t ?_ hp
  have hpos := Nat.two_pow_pos n
  have h1 := popc_le_full n hn rp (by have := h.1; omega)
  by_cases e : t = 2 ^ n - 1
  · rw [e] at hp; omega
  · omega
