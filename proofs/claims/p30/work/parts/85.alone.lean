/-! the class's rows and spans modulo 1009: who is alone is who can be put together -/
theorem rst0_bv (s k : Nat) : rst0 s k = bv s k := by
  show ((s.testBit k).toNat : Int) = bz (s.testBit k)
  cases s.testBit k <;> rfl
theorem tm_dv (z : Int) : (1009 : Int) ∣ z.tmod 1009 - z := by
  have e := Int.tmod_add_mul_tdiv z 1009
  exact ⟨- z.tdiv 1009, by rw [Int.mul_neg]; omega⟩
theorem cAt_in {S : (Nat → Int) → Prop} {row other : Nat → Int} {p : Nat} (h1 : Sp 1009 S row) (h2 : Sp 1009 S other) : Sp 1009 S (cAt row other p) := by
  have hC := Sp_cl 1009 S
  by_cases h0 : other p = 0
  · exact hC.eq (fun k _ => by unfold cAt; rw [if_pos h0]) h2
  · refine hC.2.2.2.1 _ _ (fun k _ => ?_) (hC.lin (row p) (- other p) h2 h1)
    show (1009 : Int) ∣ (row p * other k + - other p * row k) - cAt row other p k
    unfold cAt
    rw [if_neg h0]
    obtain ⟨d, hd⟩ := tm_dv (other k * row p - row k * other p)
    exact ⟨-d, by rw [Int.mul_neg, ← hd]; grind⟩
theorem cAt_back {S : (Nat → Int) → Prop} {row other : Nat → Int} {p : Nat} (h1 : Sp 1009 S row) (hb : ¬ (1009 : Int) ∣ row p) (h2 : Sp 1009 S (cAt row other p)) : Sp 1009 S other := by
  have hC := Sp_cl 1009 S
  by_cases h0 : other p = 0
  · exact hC.eq (fun k _ => by unfold cAt; rw [if_pos h0]) h2
  · refine Sp_unel h1 hb (hC.2.2.2.1 _ _ (fun k _ => ?_) h2)
    show (1009 : Int) ∣ cAt row other p k - (row p * other k - other p * row k)
    unfold cAt
    rw [if_neg h0]
    obtain ⟨d, hd⟩ := tm_dv (other k * row p - row k * other p)
    exact ⟨d, by rw [← hd]; grind⟩
def RowS (u : Nat) (M : Nat → Nat → Int) : (Nat → Int) → Prop := fun v => ∃ n, n < 8 ∧ u.testBit n = true ∧ v = M n
theorem RowS.of {u : Nat} {M : Nat → Nat → Int} {n : Nat} (hn : n < 8) (h : u.testBit n = true) : Sp 1009 (RowS u M) (M n) := Sp.of ⟨n, hn, h, rfl⟩
theorem zb_un {f : Nat → Int} (h : zb f) {k : Nat} (hk : k < 8) (hn : f k ≠ 0) : ¬ (1009 : Int) ∣ f k := fun z => hn (dv_small (m := 1008) (by decide) (by have := h k hk; omega) z)
theorem zb_z {f : Nat → Int} (h : zb f) {k : Nat} (hk : k < 8) (hd : (1009 : Int) ∣ f k) : f k = 0 := dv_small (m := 1008) (by decide) (by have := h k hk; omega) hd
/-- all eight places by the rows in turn -/
def red (u : Nat) (M : Nat → Nat → Int) : Nat → (Nat → Int) → (Nat → Int)
  | 0, v => v
  | n + 1, v => if u.testBit n = true then el (M n) n (red u M n v) else red u M n v
theorem red_t {u : Nat} {M : Nat → Nat → Int} {n : Nat} (h : u.testBit n = true) (v : Nat → Int) : red u M (n + 1) v = el (M n) n (red u M n v) := if_pos h
theorem red_f {u : Nat} {M : Nat → Nat → Int} {n : Nat} (h : ¬ u.testBit n = true) (v : Nat → Int) : red u M (n + 1) v = red u M n v := if_neg h
theorem cl_red (u : Nat) (M : Nat → Nat → Int) : ∀ n, n ≤ 8 → ∀ P, cl 1009 P → cl 1009 (fun v => P (red u M n v))
  | 0, _, _, hP => hP
  | n + 1, hn, P, hP => by
    by_cases h : u.testBit n = true
    · have := cl_red u M n (by omega) _ (cl_el (M n) (c := n) (by omega) hP)
      simp only [red_t h]
      exact this
    · have := cl_red u M n (by omega) P hP
      simp only [red_f h]
      exact this
theorem cl_zero {q : Int} (hq : prm q) : cl q (fun v => ∀ k, k < 8 → q ∣ v k) := by
  refine ⟨fun k hk => (cl_at hq hk).1, fun u v hu hv k hk => (cl_at hq hk).2.1 u v (hu k hk) (hv k hk), fun a u hu k hk => (cl_at hq hk).2.2.1 a u (hu k hk), fun u v e hu k hk => (cl_at hq hk).2.2.2.1 u v e (hu k hk), fun b u hb hu k hk => (cl_at hq hk).2.2.2.2 b u hb (hu k hk)⟩
/-- a vector that is 0 at the places in use is multiplied -/
theorem red_free {u : Nat} {M : Nat → Nat → Int} (hd : ∀ n, n < 8 → u.testBit n = true → ¬ (1009 : Int) ∣ M n n) {v : Nat → Int} : ∀ n, n ≤ 8 → (∀ j, j < n → u.testBit j = true → v j = 0) → ∃ b, ¬ (1009 : Int) ∣ b ∧ ∀ k, red u M n v k = b * v k
  | 0, _, _ => ⟨1, by decide, fun k => (Int.one_mul _).symm⟩
  | n + 1, hn, h => by
    obtain ⟨b, hb, e⟩ := red_free hd n (by omega) (fun j hj => h j (by omega))
    by_cases ht : u.testBit n = true
    · refine ⟨M n n * b, prm1009.mul (hd n (by omega) ht) hb, fun k => ?_⟩
      rw [red_t ht]
      show M n n * red u M n v k - red u M n v n * M n k = M n n * b * v k
      rw [e k, e n, h n (by omega) ht]
      grind
    · exact ⟨b, hb, fun k => by rw [red_f ht]; exact e k⟩
/-- .. and a row comes to nothing -/
theorem red_row {u : Nat} {M : Nat → Nat → Int} (hR : RR u M) {i : Nat} (hi : i < 8) (hu : u.testBit i = true) : ∀ n, n ≤ 8 → (n ≤ i → ∃ b, ∀ k, red u M n (M i) k = b * M i k) ∧ (i < n → ∀ k, k < 8 → red u M n (M i) k = 0)
  | 0, _ => ⟨fun _ => ⟨1, fun k => (Int.one_mul _).symm⟩, fun h => absurd h (Nat.not_lt_zero i)⟩
  | n + 1, hn => by
    obtain ⟨h1, h2⟩ := red_row hR hi hu n (by omega)
    by_cases ht : u.testBit n = true
    · refine ⟨fun h => ?_, fun h k hk => ?_⟩
      · obtain ⟨b, e⟩ := h1 (by omega)
        refine ⟨M n n * b, fun k => ?_⟩
        rw [red_t ht]
        show M n n * red u M n (M i) k - red u M n (M i) n * M n k = M n n * b * M i k
        rw [e k, e n, hR i n hi (by omega) hu ht (by omega)]
        grind
      · rw [red_t ht]
        show M n n * red u M n (M i) k - red u M n (M i) n * M n k = 0
        by_cases e : n = i
        · subst e
          obtain ⟨b, e⟩ := h1 (Nat.le_refl n)
          rw [e k, e n]
          grind
        · rw [h2 (by omega) k hk, h2 (by omega) n (by omega)]
          grind
    · exact ⟨fun h => by rw [red_f ht]; exact h1 (by omega), fun h => by
        rw [red_f ht]
        refine h2 ?_
        by_cases e : i = n
        · rw [e] at hu; exact absurd hu ht
        · omega⟩
theorem Sp_red {u : Nat} {M : Nat → Nat → Int} (hR : RR u M) {v : Nat → Int} (h : Sp 1009 (RowS u M) v) : ∀ k, k < 8 → (1009 : Int) ∣ red u M 8 v k :=
  h _ (cl_red u M 8 (Nat.le_refl 8) _ (cl_zero prm1009)) (fun w hw k hk => by
    obtain ⟨n, hn, hu, rfl⟩ := hw
    exact ⟨0, by rw [(red_row hR hn hu 8 (Nat.le_refl 8)).2 hn k hk, Int.mul_zero]⟩)
/-- rows that stand for the sets S -/
def isSpn (u : Nat) (M : Nat → Nat → Int) (S : Nat → Prop) : Prop := (RR u M ∧ (∀ q, q < 8 → zb (M q)) ∧ ∀ n, n < 8 → u.testBit n = true → M n n ≠ 0) ∧ (∀ x, S x → Sp 1009 (RowS u M) (bv x)) ∧ ∀ n, n < 8 → u.testBit n = true → Sp 1009 (fun v => ∃ x, S x ∧ v = bv x) (M n)
theorem isSpn.un {u : Nat} {M : Nat → Nat → Int} {S : Nat → Prop} (h : isSpn u M S) {n : Nat} (hn : n < 8) (hu : u.testBit n = true) : ¬ (1009 : Int) ∣ M n n := zb_un (h.1.2.1 n hn) hn (h.1.2.2 n hn hu)
theorem rstN_in {u : Nat} {M : Nat → Nat → Int} {s : Nat} {T : (Nat → Int) → Prop} (hM : ∀ n, n < 8 → u.testBit n = true → Sp 1009 T (M n)) (hs : Sp 1009 T (bv s)) : ∀ n, n ≤ 8 → Sp 1009 T (rstN u M s n)
  | 0, _ => (Sp_cl 1009 T).eq (fun k _ => (rst0_bv s k).symm) hs
  | n + 1, hn => by
    have ih := rstN_in hM hs n (by omega)
    cases hb : u.testBit n
    · rw [rstN_f hb]; exact ih
    · rw [rstN_t hb]; exact cAt_in (hM n (by omega) hb) ih
theorem rstN_back {u : Nat} {M : Nat → Nat → Int} {s : Nat} {T : (Nat → Int) → Prop} (hd : ∀ n, n < 8 → u.testBit n = true → ¬ (1009 : Int) ∣ M n n) (hM : ∀ n, n < 8 → u.testBit n = true → Sp 1009 T (M n)) : ∀ n, n ≤ 8 → Sp 1009 T (rstN u M s n) → Sp 1009 T (bv s)
  | 0, _, h => (Sp_cl 1009 T).eq (fun k _ => rst0_bv s k) h
  | n + 1, hn, h => by
    cases hb : u.testBit n
    · rw [rstN_f hb] at h; exact rstN_back hd hM n (by omega) h
    · rw [rstN_t hb] at h; exact rstN_back hd hM n (by omega) (cAt_back (hM n (by omega) hb) (hd n (by omega) hb) h)
theorem isSpn_add {u : Nat} {M : Nat → Nat → Int} {S : Nat → Prop} (h : isSpn u M S) (s : Nat) : isSpn (spU u M s) (spM u M s) (fun x => S x ∨ x = s) := by
  have hR := RR_sp h.1.1 s
  have hZ := zb_spM (u := u) h.1.2.1 s
  have hus := rstN_back (s := s) (T := RowS (spU u M s) (spM u M s)) (fun n hn hu => h.un hn hu)
  unfold isSpn
  by_cases h8 : fnz (rst u M s) = 8
  · have eU : spU u M s = u := if_pos h8
    have eM : spM u M s = M := if_pos h8
    rw [eU, eM] at hus ⊢
    refine ⟨h.1, fun x hx => ?_, fun n hn hu => (h.2.2 n hn hu).mono (fun v ⟨x, hx, e⟩ => Sp.of ⟨x, Or.inl hx, e⟩)⟩
    rcases hx with hx | rfl
    · exact h.2.1 x hx
    · exact hus (fun n hn hu => RowS.of hn hu) 8 (Nat.le_refl 8) ((Sp_cl 1009 _).eq (fun k hk => (fnz_all h8 hk).symm) (Sp_cl 1009 _).1)
  · have hl : fnz (rst u M s) < 8 := by have := fnz_le (rst u M s); omega
    have hnz := fnz_nz hl
    have hfr := fnz_free h.1.1 s hl
    have eU : spU u M s = u ||| 2 ^ fnz (rst u M s) := if_neg h8
    have eM : ∀ q, spM u M s q = if q = fnz (rst u M s) then rst u M s else if u.testBit q = true then cAt (rst u M s) (M q) (fnz (rst u M s)) else M q := fun q => congrFun (if_neg h8) q
    generalize hp : fnz (rst u M s) = p at hl hnz hfr eU eM
    have key : ∀ k, (spU u M s).testBit k = true → k ≠ p → u.testBit k = true := fun k hk e => by
      rw [eU, Nat.testBit_or, Nat.testBit_two_pow, decide_eq_false (fun z => e z.symm), Bool.or_false] at hk
      exact hk
    have keyp : (spU u M s).testBit p = true := by rw [eU, Nat.testBit_or, Nat.testBit_two_pow, decide_eq_true rfl, Bool.or_true]
    have keyu : ∀ k, u.testBit k = true → (spU u M s).testBit k = true := fun k hk => by rw [eU, Nat.testBit_or, hk, Bool.true_or]
    have eP : spM u M s p = rst u M s := by rw [eM]; exact if_pos rfl
    have eQ : ∀ q, q ≠ p → u.testBit q = true → spM u M s q = cAt (rst u M s) (M q) p := fun q h1 h2 => by rw [eM, if_neg h1, if_pos h2]
    have hzr : zb (rst u M s) := zb_rstN u M s 8
    have hun := zb_un hzr hl hnz
    have hrow : Sp 1009 (RowS (spU u M s) (spM u M s)) (rst u M s) := by
      have := RowS.of (M := spM u M s) hl keyp
      rw [eP] at this
      exact this
    have hold : ∀ n, n < 8 → u.testBit n = true → Sp 1009 (RowS (spU u M s) (spM u M s)) (M n) := fun n hn hu => by
      have hnp : n ≠ p := by rintro rfl; rw [hfr] at hu; cases hu
      have := RowS.of (M := spM u M s) hn (keyu n hu)
      rw [eQ n hnp hu] at this
      exact cAt_back hrow hun this
    refine ⟨⟨hR, hZ, fun n hn hu => ?_⟩, fun x hx => ?_, fun n hn hu => ?_⟩
    · by_cases e : n = p
      · rw [e, eP]; exact hnz
      · have hu' := key n hu e
        rw [eQ n e hu']
        unfold cAt
        by_cases h0 : M n p = 0
        · rw [if_pos h0]; exact h.1.2.2 n hn hu'
        · rw [if_neg h0, rst_used h.1.1 s hn hu', Int.zero_mul, Int.sub_zero]
          intro hz
          have h1 := prm1009.mul (h.un hn hu') hun
          obtain ⟨d, hd⟩ := tm_dv (M n n * rst u M s p)
          rw [hz] at hd
          exact h1 ⟨-d, by rw [Int.mul_neg, ← hd]; omega⟩
    · rcases hx with hx | rfl
      · exact (h.2.1 x hx).mono (fun v ⟨n, hn, hu, e⟩ => e ▸ hold n hn hu)
      · exact hus hold 8 (Nat.le_refl 8) hrow
    · have hs : Sp 1009 (fun v => ∃ x, (S x ∨ x = s) ∧ v = bv x) (rst u M s) := rstN_in (fun n hn hu => (h.2.2 n hn hu).mono (fun v ⟨x, hx, e⟩ => Sp.of ⟨x, Or.inl hx, e⟩)) (Sp.of ⟨s, Or.inr rfl, rfl⟩) 8 (Nat.le_refl 8)
      by_cases e : n = p
      · rw [e, eP]; exact hs
      · rw [eQ n e (key n hu e)]
        exact cAt_in hs ((h.2.2 n hn (key n hu e)).mono (fun v ⟨x, hx, e⟩ => Sp.of ⟨x, Or.inl hx, e⟩))
theorem isSpn_ext {u : Nat} {M : Nat → Nat → Int} {S S' : Nat → Prop} (h : isSpn u M S) (e : ∀ x, S x ↔ S' x) : isSpn u M S' := ⟨h.1, fun x hx => h.2.1 x ((e x).mpr hx), fun n hn hu => (h.2.2 n hn hu).mono (fun v ⟨x, hx, ev⟩ => Sp.of ⟨x, (e x).mp hx, ev⟩)⟩
theorem isSpn_hold {u : Nat} {M : Nat → Nat → Int} {S : Nat → Prop} (h : isSpn u M S) {s : Nat} (hs : S s) : fnz (rst u M s) = 8 := by
  have h1 : Sp 1009 (RowS u M) (rst u M s) := rstN_in (fun n hn hu => RowS.of hn hu) (h.2.1 s hs) 8 (Nat.le_refl 8)
  have h2 := Sp_red h.1.1 h1
  obtain ⟨b, hb, e⟩ := red_free (v := rst u M s) (fun n hn hu => h.un hn hu) 8 (Nat.le_refl 8) (fun j hj hu => rst_used h.1.1 s hj hu)
  rcases fnzN_spec (rst u M s) 8 (Nat.le_refl 8) with ⟨h3, _⟩ | ⟨h3, h4, _⟩
  · exact h3
  · exfalso
    have h5 := h2 _ h3
    rw [e] at h5
    rcases prm1009 _ _ h5 with h6 | h6
    · exact hb h6
    · exact h4 (zb_z (zb_rstN u M s 8) h3 h6)
theorem cnz_one {f : Nat → Int} {p : Nat} : ∀ n, (∀ k, k < n → k ≠ p → f k = 0) → (n ≤ p → cnz f n = 0) ∧ (p < n → f p ≠ 0 → cnz f n = 1)
  | 0, _ => ⟨fun _ => rfl, fun h => absurd h (Nat.not_lt_zero p)⟩
  | n + 1, h => by
    obtain ⟨h1, h2⟩ := cnz_one n (fun k hk => h k (by omega))
    refine ⟨fun hn => ?_, fun hp hf => ?_⟩
    · rw [cnz_z (h n (by omega) (by omega))]; exact h1 (by omega)
    · by_cases e : n = p
      · subst e; rw [cnz_s hf, h1 (Nat.le_refl n)]
      · rw [cnz_z (h n (by omega) e)]; exact h2 (by omega) hf
theorem cnz_0 {f : Nat → Int} : ∀ n, cnz f n = 0 → ∀ k, k < n → f k = 0
  | 0, _, k, hk => absurd hk (Nat.not_lt_zero k)
  | n + 1, h, k, hk => by
    by_cases hn : f n = 0
    · rw [cnz_z hn] at h
      by_cases e : k = n
      · rw [e]; exact hn
      · exact cnz_0 n h k (by omega)
    · rw [cnz_s hn] at h
      omega
theorem cnz_1 {f : Nat → Int} {p : Nat} (hp : f p ≠ 0) : ∀ n, p < n → cnz f n = 1 → ∀ k, k < n → k ≠ p → f k = 0
  | 0, h, _, _, _, _ => absurd h (Nat.not_lt_zero p)
  | n + 1, hpn, h, k, hk, hkp => by
    by_cases e : n = p
    · subst e
      rw [cnz_s hp] at h
      exact cnz_0 n (by omega) k (by omega)
    · by_cases hn : f n = 0
      · rw [cnz_z hn] at h
        by_cases e2 : k = n
        · rw [e2]; exact hn
        · exact cnz_1 hp n (by omega) h k (by omega) hkp
      · rw [cnz_s hn] at h
        exact absurd (cnz_0 n (by omega) p (by omega)) hp
theorem aloN_bit (u : Nat) (M : Nat → Nat → Int) (p : Nat) : ∀ n, (aloN u M n).testBit p = true ↔ (p < n ∧ u.testBit p = true ∧ cnz (M p) 8 = 1)
  | 0 => ⟨(fun h => by have h2 : Nat.testBit 0 p = true := h; rw [Nat.zero_testBit] at h2; cases h2), (fun h => absurd h.1 (Nat.not_lt_zero p))⟩
  | n + 1 => by
    have ih := aloN_bit u M p n
    by_cases h : u.testBit n = true ∧ cnz (M n) 8 = 1
    · rw [aloN_y h.1 h.2, Nat.testBit_or, Nat.testBit_two_pow, Bool.or_eq_true, ih, decide_eq_true_eq]
      constructor
      · rintro (⟨a, b⟩ | rfl)
        · exact ⟨by omega, b⟩
        · exact ⟨by omega, h⟩
      · rintro ⟨a, b⟩
        by_cases e : n = p
        · exact Or.inr e
        · exact Or.inl ⟨by omega, b⟩
    · rw [aloN_n h, ih]
      constructor
      · rintro ⟨a, b⟩; exact ⟨by omega, b⟩
      · rintro ⟨a, b⟩
        refine ⟨?_, b⟩
        by_cases e : p = n
        · rw [e] at b; exact absurd b h
        · omega
theorem bv_pow (p k : Nat) : bv (2 ^ p) k = if p = k then 1 else 0 := by
  show bz ((2 ^ p).testBit k) = _
  rw [Nat.testBit_two_pow]
  by_cases e : p = k
  · rw [decide_eq_true e, if_pos e]; rfl
  · rw [decide_eq_false e, if_neg e]; rfl
theorem isSpn_alo {u : Nat} {M : Nat → Nat → Int} {S : Nat → Prop} (h : isSpn u M S) {p : Nat} (hp : p < 8) : (alo u M).testBit p = true ↔ Sp 1009 (fun v => ∃ x, S x ∧ v = bv x) (bv (2 ^ p)) := by
  have hd := fun n hn hu => h.un (n := n) hn hu
  refine (aloN_bit u M p 8).trans ⟨fun ⟨_, hu, hc⟩ => ?_, fun hS => ?_⟩
  · have hz := cnz_1 (h.1.2.2 p hp hu) 8 hp hc
    have hC := Sp_cl 1009 (fun v => ∃ x, S x ∧ v = bv x)
    refine hC.2.2.2.2 (M p p) _ (hd p hp hu) (hC.eq (fun k hk => ?_) (h.2.2 p hp hu))
    show M p k = M p p * bv (2 ^ p) k
    rw [bv_pow]
    by_cases e : p = k
    · rw [if_pos e, ← e, Int.mul_one]
    · rw [if_neg e, Int.mul_zero, hz k hk (fun z => e z.symm)]
  · have h1 : Sp 1009 (RowS u M) (bv (2 ^ p)) := hS.mono (fun v ⟨x, hx, e⟩ => e ▸ h.2.1 x hx)
    have h2 := Sp_red h.1.1 h1
    have hu : u.testBit p = true := Classical.byContradiction fun hn => by
      obtain ⟨b, hb, e⟩ := red_free (v := bv (2 ^ p)) hd 8 (Nat.le_refl 8) (fun j hj hu => by rw [bv_pow, if_neg (show ¬ p = j from fun z => hn (by rw [z]; exact hu))])
      have h3 := h2 p hp
      rw [e, bv_pow, if_pos rfl, Int.mul_one] at h3
      exact hb h3
    refine ⟨hp, hu, (cnz_one 8 (fun k hk hkp => ?_)).2 hp (h.1.2.2 p hp hu)⟩
    obtain ⟨b, hb, e⟩ := red_free (u := u) (M := M) (v := bv (2 ^ p)) hd p (by omega) (fun j hj hu => by rw [bv_pow, if_neg (by omega)])
    have key : ∀ n, n ≤ 8 → p < n → ∃ b, ¬ (1009 : Int) ∣ b ∧ ∀ k, k < 8 → red u M n (bv (2 ^ p)) k = b * (M p p * bv (2 ^ p) k - M p k) := by
      intro n
      induction n with
      | zero => exact fun _ h => absurd h (Nat.not_lt_zero p)
      | succ n ih =>
        intro hn hpn
        by_cases en : n = p
        · subst en
          refine ⟨b, hb, fun k _ => ?_⟩
          rw [red_t hu]
          show M n n * red u M n (bv (2 ^ n)) k - red u M n (bv (2 ^ n)) n * M n k = _
          rw [e k, e n, bv_pow n n, if_pos rfl]
          grind
        · obtain ⟨b', hb', e'⟩ := ih (by omega) (by omega)
          by_cases ht : u.testBit n = true
          · refine ⟨M n n * b', prm1009.mul (hd n (by omega) ht) hb', fun k hk => ?_⟩
            rw [red_t ht]
            show M n n * red u M n (bv (2 ^ p)) k - red u M n (bv (2 ^ p)) n * M n k = _
            rw [e' k hk, e' n (by omega), bv_pow p n, if_neg (by omega), h.1.1 p n hp (by omega) hu ht (by omega)]
            grind
          · exact ⟨b', hb', fun k hk => by rw [red_f ht]; exact e' k hk⟩
    obtain ⟨b', hb', e'⟩ := key 8 (Nat.le_refl 8) hp
    have h3 := h2 k hk
    rw [e' k hk, bv_pow, if_neg (fun z => hkp z.symm), Int.mul_zero, Int.zero_sub] at h3
    rcases prm1009 _ _ h3 with h4 | h4
    · exact absurd h4 hb'
    · exact zb_z (h.1.2.1 p hp) hk (Int.dvd_neg.mp h4)
/-- the sets below n that somebody of ci heard -/
def hrd (hr : Nat → Nat) (ci n : Nat) : Nat → Prop := fun x => x < n ∧ hr x &&& ci ≠ 0
theorem fil_spn (hr : Nat → Nat) (ci : Nat) : ∀ n, isSpn (fil hr ci n).1 (fil hr ci n).2 (hrd hr ci n)
  | 0 => by
    refine ⟨⟨(fil_ok hr ci 0).1, fun q _ c _ => ?_, fun n _ h => ?_⟩, fun x hx => absurd hx.1 (Nat.not_lt_zero x), fun n _ h => ?_⟩
    · show -1009 < (0 : Int) ∧ (0 : Int) < 1009
      decide
    · have h2 : Nat.testBit 0 n = true := h
      rw [Nat.zero_testBit] at h2
      cases h2
    · have h2 : Nat.testBit 0 n = true := h
      rw [Nat.zero_testBit] at h2
      cases h2
  | n + 1 => by
    have ih := fil_spn hr ci n
    by_cases h : hr n &&& ci = 0
    · rw [fil_n h]
      refine isSpn_ext ih (fun x => ⟨fun hx => ⟨by have := hx.1; omega, hx.2⟩, fun hx => ⟨?_, hx.2⟩⟩)
      by_cases e : x = n
      · have h2 := hx.2
        rw [e] at h2
        exact absurd h h2
      · have := hx.1
        omega
    · have h1 := isSpn_add ih n
      rw [fil_y h]
      generalize spU (fil hr ci n).1 (fil hr ci n).2 n = a at h1 ⊢
      generalize spM (fil hr ci n).1 (fil hr ci n).2 n = b at h1 ⊢
      refine isSpn_ext (u := a) (M := b) h1 (fun x => ⟨fun hx => ?_, fun hx => ?_⟩)
      · rcases hx with hx | rfl
        · exact ⟨by have := hx.1; omega, hx.2⟩
        · exact ⟨by omega, h⟩
      · by_cases e : x = n
        · exact Or.inr e
        · exact Or.inl ⟨by have := hx.1; omega, hx.2⟩
theorem GA_iff (hr : Nat → Nat) (ci : Nat) {p : Nat} (hp : p < 8) : (GA hr ci).testBit p = true ↔ Sp 1009 (fun v => ∃ x, hrd hr ci 256 x ∧ v = bv x) (bv (2 ^ p)) := by
  have h := fil_spn hr ci 256
  unfold GA filU filM
  generalize (fil hr ci 256).1 = u at h ⊢
  generalize (fil hr ci 256).2 = M at h ⊢
  exact isSpn_alo h hp
theorem GW_iff (hr : Nat → Nat) (ci s : Nat) {p : Nat} (hp : p < 8) : (GW hr ci s).testBit p = true ↔ Sp 1009 (fun v => ∃ x, (hrd hr ci 256 x ∨ x = s) ∧ v = bv x) (bv (2 ^ p)) := by
  have h := isSpn_add (fil_spn hr ci 256) s
  unfold GW filU filM
  generalize (fil hr ci 256).1 = u at h ⊢
  generalize (fil hr ci 256).2 = M at h ⊢
  generalize spU u M s = a at h ⊢
  generalize spM u M s = b at h ⊢
  exact isSpn_alo h hp
theorem hold_of (hr : Nat → Nat) (ci k : Nat) (hk : ci.testBit k = true) : hold hr ci k := by
  have h := fil_spn hr ci 256
  unfold hold filU filM
  generalize (fil hr ci 256).1 = u at h ⊢
  generalize (fil hr ci 256).2 = M at h ⊢
  refine fun x hx hb => isSpn_hold h ⟨hx, fun h => ?_⟩
  have h2 : (hr x &&& ci).testBit k = true := by rw [Nat.testBit_and, hb, hk]; rfl
  rw [h, Nat.zero_testBit] at h2
  cases h2
