/-! the law's rank: how many places lead, modulo 1000003 -/
def RkI (S : (Nat → Int) → Prop) (n : Nat) (M : Nat → Nat → Int) (c rk : Nat) : Prop := (rk ≤ c ∧ rk ≤ n) ∧ (∀ i, i < n → Sp 1000003 S (M i)) ∧ (∀ i, rk ≤ i → i < n → ∀ k, k < c → M i k = 0) ∧ cnt (ld 1000003 S) c rk ∧ (∀ v, Sp 1000003 S v → (∀ k, k < c → (1000003 : Int) ∣ v k) → Sp 1000003 (fun u => ∃ i, rk ≤ i ∧ i < n ∧ u = M i) v) ∧ ∀ i, i < n → ∀ k, k < 8 → 0 ≤ M i k ∧ M i k < 1000003
theorem dv_pos {a : Int} (h0 : 0 ≤ a) (h1 : a < 1000003) (h : (1000003 : Int) ∣ a) : a = 0 := dv_small (m := 1000002) (by decide) (by omega) h
theorem RkI_0 {S : (Nat → Int) → Prop} {n : Nat} {M : Nat → Nat → Int} (h1 : ∀ i, i < n → S (M i)) (h2 : ∀ v, S v → ∃ i, i < n ∧ v = M i) (hb : ∀ i, i < n → ∀ k, k < 8 → 0 ≤ M i k ∧ M i k < 1000003) : RkI S n M 0 0 :=
  ⟨⟨Nat.le_refl 0, Nat.zero_le n⟩, fun i hi => Sp.of (h1 i hi), fun _ _ _ k hk => absurd hk (Nat.not_lt_zero k), rfl, fun v hv _ => hv.mono (fun u hu => by
    obtain ⟨i, hi, e⟩ := h2 u hu
    exact Sp.of ⟨i, Nat.zero_le i, hi, e⟩), hb⟩
theorem RkI_skip {S : (Nat → Int) → Prop} {n c rk : Nat} {M : Nat → Nat → Int} (h : RkI S n M c rk) (hc : c < 8) (h0 : ∀ i, rk ≤ i → i < n → M i c = 0) : RkI S n M (c + 1) rk := by
  obtain ⟨⟨a1, a2⟩, b, d, e, f, g⟩ := h
  refine ⟨⟨by omega, a2⟩, b, fun i hi hn k hk => ?_, Or.inr ⟨?_, e⟩, fun v hv hz => f v hv (fun k hk => hz k (by omega)), g⟩
  · by_cases ek : k = c
    · rw [ek]; exact h0 i hi hn
    · exact d i hi hn k (by omega)
  · rintro ⟨v, hv, hz, hn⟩
    exact hn (f v hv hz _ (cl_at prm1M hc) (fun u hu => by
      obtain ⟨i, hi, hin, rfl⟩ := hu
      exact ⟨0, by rw [h0 i hi hin, Int.mul_zero]⟩))
/-- two rows change places -/
theorem RkI_swap {S : (Nat → Int) → Prop} {n c rk p : Nat} {M M' : Nat → Nat → Int} (h : RkI S n M c rk) (hp : rk ≤ p) (hpn : p < n) (e1 : M' rk = M p) (e2 : M' p = M rk) (e3 : ∀ i, i ≠ rk → i ≠ p → M' i = M i) : RkI S n M' c rk := by
  obtain ⟨⟨a1, a2⟩, b, d, e, f, g⟩ := h
  have back : ∀ i, i < n → ∃ j, j < n ∧ (rk ≤ i → rk ≤ j) ∧ M' i = M j := fun i hi => by
    by_cases h1 : i = rk
    · exact ⟨p, hpn, fun _ => hp, by rw [h1]; exact e1⟩
    · by_cases h2 : i = p
      · exact ⟨rk, by omega, fun _ => Nat.le_refl rk, by rw [h2]; exact e2⟩
      · exact ⟨i, hi, fun z => z, e3 i h1 h2⟩
  have forth : ∀ i, i < n → ∃ j, j < n ∧ (rk ≤ i → rk ≤ j) ∧ M i = M' j := fun i hi => by
    by_cases h1 : i = rk
    · exact ⟨p, hpn, fun _ => hp, by rw [h1]; exact e2.symm⟩
    · by_cases h2 : i = p
      · exact ⟨rk, by omega, fun _ => Nat.le_refl rk, by rw [h2]; exact e1.symm⟩
      · exact ⟨i, hi, fun z => z, (e3 i h1 h2).symm⟩
  refine ⟨⟨a1, a2⟩, fun i hi => ?_, fun i hi hn k hk => ?_, e, fun v hv hz => (f v hv hz).mono (fun u hu => ?_), fun i hi k hk => ?_⟩
  · obtain ⟨j, hj, _, ej⟩ := back i hi
    rw [ej]; exact b j hj
  · obtain ⟨j, hj, hr, ej⟩ := back i hn
    rw [ej]; exact d j (hr hi) hj k hk
  · obtain ⟨i, hi, hin, rfl⟩ := hu
    obtain ⟨j, hj, hr, ej⟩ := forth i hin
    exact Sp.of ⟨j, hr hi, hj, ej⟩
  · obtain ⟨j, hj, _, ej⟩ := back i hi
    rw [ej]; exact g j hj k hk
/-- the rows below a pivot are cleared -/
theorem RkI_piv {S : (Nat → Int) → Prop} {n c rk : Nat} {M M' : Nat → Nat → Int} (h : RkI S n M c rk) (hc : c < 8) (hrn : rk < n) (hnz : M rk c ≠ 0) (e1 : ∀ i, i ≤ rk → ∀ k, k < 8 → M' i k = M i k) (e2 : ∀ i, rk < i → i < n → ∀ k, k < 8 → M' i k = (M i k * M rk c - M rk k * M i c) % 1000003) : RkI S n M' (c + 1) (rk + 1) := by
  obtain ⟨⟨a1, a2⟩, b, d, e, f, g⟩ := h
  have hC := Sp_cl 1000003 S
  have hu : ¬ (1000003 : Int) ∣ M rk c := fun z => hnz (dv_pos (g rk hrn c hc).1 (g rk hrn c hc).2 z)
  have md : ∀ x : Int, (1000003 : Int) ∣ x - x % 1000003 := fun x => ⟨x / 1000003, by have := Int.mul_ediv_add_emod x 1000003; omega⟩
  refine ⟨⟨by omega, by omega⟩, fun i hi => ?_, fun i hi hn k hk => ?_, Or.inl ⟨⟨M rk, b rk hrn, fun k hk => ⟨0, by rw [d rk (Nat.le_refl rk) hrn k hk, Int.mul_zero]⟩, hu⟩, rk, rfl, e⟩, fun v hv hz => ?_, fun i hi k hk => ?_⟩
  · by_cases hr : i ≤ rk
    · exact hC.eq (fun k hk => (e1 i hr k hk).symm) (b i hi)
    · refine hC.2.2.2.1 _ _ (fun k hk => ?_) (hC.lin (M rk c) (- M i c) (b i hi) (b rk hrn))
      show (1000003 : Int) ∣ (M rk c * M i k + - M i c * M rk k) - M' i k
      rw [e2 i (by omega) hi k hk, show M rk c * M i k + - M i c * M rk k = M i k * M rk c - M rk k * M i c by grind]
      exact md _
  · rw [e2 i (by omega) hn k (by omega)]
    by_cases ek : k = c
    · rw [ek, show M i c * M rk c - M rk c * M i c = 0 by grind]; rfl
    · rw [d i (by omega) hn k (by omega), d rk (Nat.le_refl rk) hrn k (by omega), Int.zero_mul, Int.zero_mul, Int.sub_zero]; rfl
  · have h1 := f v hv (fun k hk => hz k (by omega))
    have h2 : Sp 1000003 (fun u => ∃ i, rk + 1 ≤ i ∧ i < n ∧ u = M' i) (el (M rk) c v) := Sp_el hc (fun u hu => by
      obtain ⟨i, hi, hin, rfl⟩ := hu
      have hC' := Sp_cl 1000003 (fun u => ∃ i, rk + 1 ≤ i ∧ i < n ∧ u = M' i)
      by_cases er : i = rk
      · exact hC'.eq (fun k _ => by rw [er]; exact (el_self (M rk) c k).symm) hC'.1
      · refine hC'.2.2.2.1 _ _ (fun k hk => ?_) (Sp.of ⟨i, by omega, hin, rfl⟩)
        show (1000003 : Int) ∣ M' i k - (M rk c * M i k - M i c * M rk k)
        rw [e2 i (by omega) hin k hk, show M rk c * M i k - M i c * M rk k = M i k * M rk c - M rk k * M i c by grind]
        obtain ⟨y, hy⟩ := md (M i k * M rk c - M rk k * M i c)
        exact ⟨-y, by rw [Int.mul_neg, ← hy]; omega⟩) h1
    have hC' := Sp_cl 1000003 (fun u => ∃ i, rk + 1 ≤ i ∧ i < n ∧ u = M' i)
    refine hC'.2.2.2.2 (M rk c) v hu (hC'.2.2.2.1 _ _ (fun k hk => ?_) h2)
    show (1000003 : Int) ∣ (M rk c * v k - v c * M rk k) - M rk c * v k
    obtain ⟨y, hy⟩ := hz c (Nat.lt_succ_self c)
    exact ⟨- y * M rk k, by rw [hy]; grind⟩
  · by_cases hr : i ≤ rk
    · rw [e1 i hr k hk]; exact g i hi k hk
    · rw [e2 i (by omega) hi k hk]
      exact ⟨Int.emod_nonneg _ (by decide), Int.emod_lt_of_pos _ (by decide)⟩
/-- ranks that are equal: the one more is put together of the others -/
theorem rank_eq {S S' : (Nat → Int) → Prop} {e : Nat → Int} (hS : ∀ u, S u → S' u) (he : S' e) {r : Nat} (h1 : cnt (ld 1000003 S) 8 r) (h2 : cnt (ld 1000003 S') 8 r) : Sp 1000003 S e :=
  Sp_of_ld prm1M hS he (fun c hc h => (cnt_le (fun c ⟨v, hv, hz, hn⟩ => ⟨v, hv.mono (fun u hu => Sp.of (hS u hu)), hz, hn⟩) 8 r r h1 h2).2 rfl c hc h) (by decide)
