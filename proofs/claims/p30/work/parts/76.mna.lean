section GM
variable {p : Program} {l : Launch} {e : Env} {R : Room} {s : State} {m : MethodId} {args : Array Value} {below : List Frame} {meth : Method} {c : Code} {H : Heap} {locs : List Loc} {cells slots : Nat} {Q : State → Prop}
variable {cc : ByteArray} {pc : Nat} {ls : Array Slot} {rest : List Value} {A : Nat → Prop}
/-- new int[8][8]: the outer array and its rows, each a place of its own -/
theorem gZ_mna {G : gG} {X : va_W} {own : String} {index : Nat} (hx : p.tables.exec = Jvm.exec) (hb : c.code = cc) (hown : s.vm.findClass own = some m.cls) (hE : gE G A s s.heap) (hclink : (Cond.classLink own index "[[I").before args s = true) (harr : (Cond.arrayClass .int).before args s = true) (hK : va_K (gD G) vwCl (gT G) s) (hP : va_P (gD G) vwCl X H) (hD : va_D A X) (hS : va_S A s.heap H locs) (hA : ∀ q, s.heap.size ≤ q → A q) (hcells : cells + 9 ≤ R.cells) (hslots : slots + 72 ≤ R.slots) (hdg : decode cc pc = .ok (.multianewarray index 2, 4))
    (kk : ∀ (q : Nat) (r : Nat → Nat) (H1 : Heap), va_P (gD G) vwCl (X ++ ((q, .inl (G.2.2.1 1, 8, .inr (.inr (.inr (.inr (fun i => if i < 8 then some (r i) else none)))))) :: rows8 G r (fun _ _ => 0))) H1 → va_D A (X ++ ((q, .inl (G.2.2.1 1, 8, .inr (.inr (.inr (.inr (fun i => if i < 8 then some (r i) else none)))))) :: rows8 G r (fun _ _ => 0))) → va_S A s.heap H1 locs →
      W p l e R s m args below meth c H1 locs (cells + 9) (slots + 72) Q (F0 m (pc + 4) ls (.ref q :: rest))) : W p l e R s m args below meth c H locs cells slots Q (F0 m pc ls (.int (nI 8) :: .int (nI 8) :: rest)) := by
  have hcy : s.vm.findClass (FieldType.array .int).toString = some (G.2.2.1 0) := (hK.2 0 _ rfl).2
  have e0 : X ++ va_pl [] (fun _ => (.inl (G.2.2.1 0, 8, .inl (zA (fun _ => 0))) : va_E)) = X := List.append_nil X
  refine va_mna (X := X) (L := []) (f := fun _ => .inl (G.2.2.1 0, 8, .inl (zA (fun _ => 0)))) (N' := 8) (K' := 8) (z := (8, .inl (zA (fun _ => 0)))) hx hb hown hclink hE.2.1.1.1 harr hcy hK (by rw [e0]; exact hP) (by rw [e0]; exact hD) hS hA (by decide) (by decide) rfl rfl (by decide) (by decide) (by decide) rfl rfl hcells hslots (fun c => arrV_new c 8 _) hdg (fun q r cA H1 _ _ hK1 hP1 hD1 hS1 => ?_)
  have h0 : s.vm.findClass ("[" ++ (FieldType.array .int).toString) = some (G.2.2.1 1) := (hK.2 1 _ rfl).2
  have h1 : s.vm.findClass ("[" ++ (FieldType.array .int).toString) = some cA := (hK1.2 5 _ rfl).2
  cases Option.some.inj (h0.symm.trans h1)
  have e2 : ∀ v : va_E, va_pl ([] ++ (List.range 8).map r) (vr_up (fun _ => (.inl (G.2.2.1 0, 8, .inl (zA (fun _ => 0))) : va_E)) ((List.range 8).map r) v) = (List.range 8).map (fun k => (r k, v)) := fun v => by
    unfold va_pl
    rw [List.nil_append, List.map_map]
    exact List.map_congr_left fun k hk => congrArg (Prod.mk (r k)) (vr_up_in (List.mem_map.mpr ⟨k, hk, rfl⟩))
  rw [e2, List.append_assoc] at hP1 hD1
  exact kk q r H1 hP1 hD1 hS1
end GM
