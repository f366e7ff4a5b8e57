/-! what arrays hold counts below their length alone; arrays of arrays; Ints in ints -/
theorem arrV_congr (cA : ClassId) {n : Nat} {f g : Nat → Value} (h : ∀ j, j < n → f j = g j) : arrV cA n f = arrV cA n g := by
  unfold arrV
  congr 1
  exact congrArg Array.ofFn (funext fun j => h j.val j.isLt)
theorem P_re {D : va_G} {cl : List vw_C} {A : Nat → Prop} {ws : va_W} {H : Heap} {a n : Nat} {cA : ClassId} {f f' : Nat → Int32} (hP : va_P D cl ws H) (hD : va_D A ws) (q0 : Nat) (ha : ws[q0]? = some (a, .inl (cA, n, .inl f))) (h : ∀ j, j < n → f j = f' j) : va_P D cl (ws.set q0 (a, .inl (cA, n, .inl f'))) H ∧ va_D A (ws.set q0 (a, .inl (cA, n, .inl f'))) := by
  refine ⟨hP.set hD ha ?_ (fun _ _ => rfl), hD.set ha⟩
  have h0 : H[a]? = some (vp_cell cA (n, .inl f)) := hP q0 _ ha
  show H[a]? = some (vp_cell cA (n, .inl f'))
  rw [h0]
  rw [vp_cell_i, vp_cell_i]
  exact congrArg some (arrV_congr cA (fun j hj => by rw [h j hj]))
/-- eight rows of eight -/
abbrev rows8 (G : gG) (r : Nat → Nat) (M : Nat → Nat → Int) : va_W := [(r 0, .inl (G.2.2.1 0, 8, .inl (zA (M 0)))), (r 1, .inl (G.2.2.1 0, 8, .inl (zA (M 1)))), (r 2, .inl (G.2.2.1 0, 8, .inl (zA (M 2)))), (r 3, .inl (G.2.2.1 0, 8, .inl (zA (M 3)))), (r 4, .inl (G.2.2.1 0, 8, .inl (zA (M 4)))), (r 5, .inl (G.2.2.1 0, 8, .inl (zA (M 5)))), (r 6, .inl (G.2.2.1 0, 8, .inl (zA (M 6)))), (r 7, .inl (G.2.2.1 0, 8, .inl (zA (M 7))))]
theorem rows8_at (G : gG) (r : Nat → Nat) (M : Nat → Nat → Int) {p : Nat} (hp : p < 8) : (rows8 G r M)[p]? = some (r p, .inl (G.2.2.1 0, 8, .inl (zA (M p)))) := by
  rcases (show p = 0 ∨ p = 1 ∨ p = 2 ∨ p = 3 ∨ p = 4 ∨ p = 5 ∨ p = 6 ∨ p = 7 by omega) with rfl | rfl | rfl | rfl | rfl | rfl | rfl | rfl <;> rfl
theorem rows8_set (G : gG) (r : Nat → Nat) (M : Nat → Nat → Int) {p : Nat} (hp : p < 8) (x : Nat → Int) : (rows8 G r M).set p (r p, .inl (G.2.2.1 0, 8, .inl (zA x))) = rows8 G r (va_up M p x) := by
  rcases (show p = 0 ∨ p = 1 ∨ p = 2 ∨ p = 3 ∨ p = 4 ∨ p = 5 ∨ p = 6 ∨ p = 7 by omega) with rfl | rfl | rfl | rfl | rfl | rfl | rfl | rfl <;> rfl
theorem rowAt (G : gG) (r : Nat → Nat) (M : Nat → Nat → Int) (pre post : va_W) {p : Nat} (hp : p < 8) : (pre ++ (rows8 G r M ++ post))[pre.length + p]? = some (r p, .inl (G.2.2.1 0, 8, .inl (zA (M p)))) := by
  rw [List.getElem?_append_right (Nat.le_add_right _ _), Nat.add_sub_cancel_left, List.getElem?_append_left (by show p < 8; exact hp)]
  exact rows8_at G r M hp
theorem rowSet (G : gG) (r : Nat → Nat) (M : Nat → Nat → Int) (pre post : va_W) {p : Nat} (hp : p < 8) (x : Nat → Int) : (pre ++ (rows8 G r M ++ post)).set (pre.length + p) (r p, .inl (G.2.2.1 0, 8, .inl (zA x))) = pre ++ (rows8 G r (va_up M p x) ++ post) := by
  rw [List.set_append_right _ _ (Nat.le_add_right _ _), Nat.add_sub_cancel_left, List.set_append_left _ _ (by show p < 8; exact hp), rows8_set G r M hp]
section NR
variable {p : Program} {l : Launch} {e : Env} {R : Room} {s : State} {m : MethodId} {args : Array Value} {below : List Frame} {meth : Method} {c : Code} {H : Heap} {locs : List Loc} {cells slots : Nat} {Q : State → Prop}
variable {cc : ByteArray} {pc : Nat} {ls : Array Slot} {rest : List Value} {a : Nat} {off : Int} {tgt : Nat} {D : va_G} {cl : List vw_C} {tys : List (ClassId × FieldType)} {ws : va_W}
theorem gR_aald (hx : p.tables.exec = Jvm.exec) (hb : c.code = cc) (hK : va_K D cl tys s) (hP : va_P D cl ws H) (q0 t0 : Nat) {cA : ClassId} {ty : FieldType} {n r v : Nat} {f : Nat → Option Nat} (ha : ws[q0]? = some (r, .inl (cA, n, .inr (.inr (.inr (.inr f)))))) (ht : tys[t0]? = some (cA, .array ty)) (hi : a < n) (hn : n < 2 ^ 31) (hv : f a = some v) (hdg : decode cc pc = .ok (.aaload, 1))
    (kk : W p l e R s m args below meth c H locs cells slots Q (F0 m (pc + 1) ls (.ref v :: rest))) : W p l e R s m args below meth c H locs cells slots Q (F0 m pc ls (.int (nI a) :: .ref r :: rest)) := by
  have hin := vp_in_nI hi hn
  have hcl : (nI a).toNatClampNeg = a := nI_clamp (by omega)
  exact W.aald (v := .ref v) (ty := .array ty) hx hb (hP q0 _ ha) ((hK.2 t0 _ ht).1 n (fun j => va_rf (f j))) rfl (fun q => by cases q) (by show ¬ (nI a < 0 ∨ (arrV _ _ _).slots.size ≤ _); rw [arrV_size]; exact hin) (by show (arrV _ _ _).slots[_]? = _; rw [hcl, arrV_read _ _ hi, hv]; rfl) rfl rfl hdg kk
/-- small -/
def zs (z : Int) : Prop := -2147483648 ≤ z ∧ z < 2147483648
theorem iZ_toInt {z : Int} (h : zs z) : (iZ z).toInt = z := by
  obtain ⟨h1, h2⟩ := h
  exact Int32.toInt_ofInt_of_le (by omega) (by omega)
theorem iZ_0 {z : Int} (h : zs z) : iZ z = 0 ↔ z = 0 := by
  constructor
  · intro e
    have h1 := iZ_toInt h
    rw [e] at h1
    exact h1.symm
  · rintro rfl
    rfl
theorem nI_iZ (n : Nat) : nI n = iZ (n : Int) := rfl
theorem z_mul (a b : Int) : iZ a * iZ b = iZ (a * b) := (Int32.ofInt_mul a b).symm
theorem z_sub (a b : Int) : iZ a - iZ b = iZ (a - b) := (Int32.ofInt_sub a b).symm
theorem z_rem {a : Int} (h : zs a) : iZ a - iZ a / nI 1009 * nI 1009 = iZ (a.tmod 1009) := by
  have hd : (nI 1009).toInt = 1009 := nI_toInt (by decide)
  have hq : iZ a / nI 1009 = iZ (a.tdiv 1009) := by
    apply Int32.toInt_inj.mp
    have hs : zs (a.tdiv 1009) := by
      unfold zs at h ⊢
      rcases Int.le_total 0 a with z | z
      · have h1 := Int.tdiv_nonneg z (show (0 : Int) ≤ 1009 by decide)
        have h2 := Int.tdiv_le_self 1009 z
        omega
      · have h1 := Int.tdiv_nonneg (show 0 ≤ -a by omega) (show (0 : Int) ≤ 1009 by decide)
        have h2 := Int.tdiv_le_self 1009 (show 0 ≤ -a by omega)
        have h3 : (-a).tdiv 1009 = -(a.tdiv 1009) := Int.neg_tdiv _ _
        omega
    rw [Int32.toInt_div_of_ne_right _ _ (by decide), iZ_toInt h, hd, iZ_toInt hs]
  rw [hq, nI_iZ, z_mul, z_sub]
  have e := Int.tmod_add_mul_tdiv a 1009
  exact congrArg iZ (by rw [show ((1009 : Nat) : Int) = 1009 from rfl, Int.mul_comm (a.tdiv 1009) 1009]; omega)
theorem gZ_ne0 {z : Int} (hx : p.tables.exec = Jvm.exec) (hb : c.code = cc) (hdg : decode cc pc = .ok (.ifCond .ne off, 3)) (ht : (pc : Int) + off = (tgt : Int)) (hz : zs z) (kt : z ≠ 0 → W p l e R s m args below meth c H locs cells slots Q (F0 m tgt ls rest)) (kf : z = 0 → W p l e R s m args below meth c H locs cells slots Q (F0 m (pc + 3) ls rest)) : W p l e R s m args below meth c H locs cells slots Q (F0 m pc ls (.int (iZ z) :: rest)) :=
  lv_if_ne hx hb hdg ht (fun h => kt (mt (iZ_0 hz).mpr h)) (fun h => kf ((iZ_0 hz).mp h))
theorem gZ_eq0 {z : Int} (hx : p.tables.exec = Jvm.exec) (hb : c.code = cc) (hdg : decode cc pc = .ok (.ifCond .eq off, 3)) (ht : (pc : Int) + off = (tgt : Int)) (hz : zs z) (kt : z = 0 → W p l e R s m args below meth c H locs cells slots Q (F0 m tgt ls rest)) (kf : z ≠ 0 → W p l e R s m args below meth c H locs cells slots Q (F0 m (pc + 3) ls rest)) : W p l e R s m args below meth c H locs cells slots Q (F0 m pc ls (.int (iZ z) :: rest)) :=
  lv_if_eq hx hb hdg ht (fun h => kt ((iZ_0 hz).mp h)) (fun h => kf (mt (iZ_0 hz).mpr h))
end NR
/-- entries between -1008 and 1008 -/
def zb (f : Nat → Int) : Prop := ∀ c, c < 8 → -1009 < f c ∧ f c < 1009
/-- other, after it was made 0 at p by row -/
def cAt (row other : Nat → Int) (p : Nat) : Nat → Int := fun c => if other p = 0 then other c else (other c * row p - row c * other p).tmod 1009
theorem tmod_b (z : Int) : -1009 < z.tmod 1009 ∧ z.tmod 1009 < 1009 := ⟨Int.lt_tmod_of_pos z (by decide), Int.tmod_lt_of_pos z (by decide)⟩
theorem zb_cAt {row other : Nat → Int} (h : zb other) (p : Nat) : zb (cAt row other p) := fun c hc => by
  unfold cAt
  split
  · exact h c hc
  · exact tmod_b _
theorem mul_b {a b : Int} (ha : -1009 < a ∧ a < 1009) (hb : -1009 < b ∧ b < 1009) : -1016064 ≤ a * b ∧ a * b ≤ 1016064 := by
  have h : a.natAbs * b.natAbs ≤ 1008 * 1008 := Nat.mul_le_mul (by omega) (by omega)
  rw [← Int.natAbs_mul] at h
  omega
/-- what is left of a set by the rows in use -/
def rst0 (s : Nat) : Nat → Int := fun c => ((s.testBit c).toNat : Int)
def rstN (u : Nat) (M : Nat → Nat → Int) (s : Nat) : Nat → (Nat → Int)
  | 0 => rst0 s
  | n + 1 => if u.testBit n then cAt (M n) (rstN u M s n) n else rstN u M s n
def rst (u : Nat) (M : Nat → Nat → Int) (s : Nat) : Nat → Int := rstN u M s 8
theorem zb_rst0 (s : Nat) : zb (rst0 s) := fun c _ => by
  unfold rst0
  have := Bool.toNat_le (s.testBit c)
  omega
theorem zb_rstN (u : Nat) (M : Nat → Nat → Int) (s : Nat) : ∀ n, zb (rstN u M s n)
  | 0 => zb_rst0 s
  | n + 1 => by
    unfold rstN
    split
    · exact zb_cAt (zb_rstN u M s n) n
    · exact zb_rstN u M s n
/-- the first place that is not 0, of the first eight; 8 without one -/
def fnzN (f : Nat → Int) : Nat → Nat
  | 0 => 8
  | n + 1 => if fnzN f n < 8 then fnzN f n else if f n = 0 then 8 else n
def fnz (f : Nat → Int) : Nat := fnzN f 8
theorem fnzN_spec (f : Nat → Int) : ∀ n, n ≤ 8 → (fnzN f n = 8 ∧ ∀ j, j < n → f j = 0) ∨ (fnzN f n < n ∧ f (fnzN f n) ≠ 0 ∧ ∀ j, j < fnzN f n → f j = 0)
  | 0, _ => Or.inl ⟨rfl, fun j hj => absurd hj (Nat.not_lt_zero j)⟩
  | n + 1, hn => by
    rcases fnzN_spec f n (by omega) with ⟨h1, h2⟩ | ⟨h1, h2, h3⟩
    · unfold fnzN
      rw [if_neg (by omega)]
      by_cases hz : f n = 0
      · rw [if_pos hz]
        exact Or.inl ⟨rfl, fun j hj => (Nat.lt_or_ge j n).elim (fun y => h2 j y) (fun y => by rw [show j = n by omega]; exact hz)⟩
      · rw [if_neg hz]
        exact Or.inr ⟨Nat.lt_succ_self n, hz, h2⟩
    · have e : fnzN f (n + 1) = fnzN f n := by
        rw [fnzN, if_pos (by omega)]
      rw [e]
      exact Or.inr ⟨by omega, h2, h3⟩
theorem fnz_at {f : Nat → Int} {i : Nat} (hi : i < 8) (h : f i ≠ 0) (h0 : ∀ j, j < i → f j = 0) : fnz f = i := by
  rcases fnzN_spec f 8 (Nat.le_refl 8) with ⟨_, h2⟩ | ⟨h1, h2, h3⟩
  · exact absurd (h2 i hi) h
  · show fnzN f 8 = i
    rcases Nat.lt_trichotomy (fnzN f 8) i with y | y | y
    · exact absurd (h0 _ y) h2
    · exact y
    · exact absurd (h3 i y) h
theorem fnz_8 {f : Nat → Int} (h0 : ∀ j, j < 8 → f j = 0) : fnz f = 8 := by
  rcases fnzN_spec f 8 (Nat.le_refl 8) with ⟨h1, _⟩ | ⟨h1, h2, _⟩
  · exact h1
  · exact absurd (h0 _ h1) h2
def fnzR (f : Nat → Int) : Int32 := if fnz f = 8 then -1 else nI (fnz f)
/-- a set comes among the rows: the places in use, the rows -/
def spU (u : Nat) (M : Nat → Nat → Int) (s : Nat) : Nat := if fnz (rst u M s) = 8 then u else u ||| 2 ^ fnz (rst u M s)
def spM (u : Nat) (M : Nat → Nat → Int) (s : Nat) : Nat → Nat → Int := if fnz (rst u M s) = 8 then M else fun q => if q = fnz (rst u M s) then rst u M s else if u.testBit q then cAt (rst u M s) (M q) (fnz (rst u M s)) else M q
/-- how many places below n are not 0 -/
def cnz (f : Nat → Int) : Nat → Nat
  | 0 => 0
  | n + 1 => if f n = 0 then cnz f n else cnz f n + 1
def aloN (u : Nat) (M : Nat → Nat → Int) : Nat → Nat
  | 0 => 0
  | n + 1 => if u.testBit n = true ∧ cnz (M n) 8 = 1 then aloN u M n ||| 2 ^ n else aloN u M n
def alo (u : Nat) (M : Nat → Nat → Int) : Nat := aloN u M 8
