set_option maxHeartbeats 4000000 in
set_option maxRecDepth 100000 in
theorem cD_init (l : Launch) (D : va_G) (q0 sz : Nat) : Met l yX0_init wsX0_init ({ frames := 1, cells := 1, slots := 4096, locals := 12 }) (va_Pc [.ref q0] (fun U => U.heap.size = sz ∧ va_P D vwCl [(q0, .inr (0, [.null, .int 0, .int 0, .int 0, .int 0, .int 0]))] U.heap ∧ va_K D vwCl [] U ∧ va_D (fun _ => True) [(q0, .inr (0, [.null, .int 0, .int 0, .int 0, .int 0, .int 0]))])) (va_Qv (fun _ : ClassId × Nat => True) (fun (u : ClassId × Nat) t => va_P D vwCl [(q0, .inr (0, [.ref u.2, .int 0, .int 0, .int 0, .int (-1), .int 0])), (u.2, .inl (u.1, 4096, .inl (fun _ => 0)))] t.heap ∧ va_K D vwCl [(u.1, .byte)] t ∧ va_D (va_A [(q0, .inr (0, [.null, .int 0, .int 0, .int 0, .int 0, .int 0]))] sz) [(q0, .inr (0, [.ref u.2, .int 0, .int 0, .int 0, .int (-1), .int 0])), (u.2, .inl (u.1, 4096, .inl (fun _ => 0)))]) (va_A [(q0, .inr (0, [.null, .int 0, .int 0, .int 0, .int 0, .int 0]))] sz)) 1 4096 (va_A [(q0, .inr (0, [.null, .int 0, .int 0, .int 0, .int 0, .int 0]))] sz) := by
  refine Met.ofW (cc := cX0_init) (maxL := 1) (ret := none) (by decide) rfl ?_
  intro p e s m args below meth c s₁ B hml hv
  obtain ⟨rfl, hsz, hP, hK, hD0⟩ := hv
  have hx := B.exec
  have hb := B.bytes
  have hr := B.returns
  have hts := atoms_spec (ws := wsX0_init) B.pre
  have hown : s.vm.findClass RX0 = some m.cls := findClass_of_methodNamed B.named
  have hlocks := B.notSynchronized
  have hnm : meth.name = "<init>" := (name_of_methodNamed B.named B.method).1
  subst hsz
  have hD := hD0.self (sz := s.heap.size)
  have hin : ∀ w ∈ wsX00, w ∈ wsX0_init := by decide +kernel
  generalize hAe : va_A [(q0, .inr (0, [.null, .int 0, .int 0, .int 0, .int 0, .int 0]))] s.heap.size = A at hD ⊢
  have hA : ∀ q : Nat, s.heap.size ≤ q → A q := fun q h => by rw [← hAe]; exact Or.inr h
  have hS : va_S A s.heap s.heap [] := va_S.rf
  have hl := lv_entry ([.ref q0]) (n := 1) (Nat.le_of_ble_eq_true rfl)
  rw [lg_entry_eq]
  generalize (lg_sl ([.ref q0]) ++ List.replicate (1 - (lg_sl ([.ref q0])).length) Slot.unset).toArray = ls at hl ⊢
  have hl : lv_has ls 1 [(0, .ref q0)] := hl
  refine lv_aload_n hx hb dX0_init_0 rfl (lv_at hl 0 rfl) ?_
  refine W.objInit hx hb hown (hts (.methodLink RX0 3 objectInit) (by decide +kernel)) (hts (.instanceMethod objectInit) (by decide +kernel)) (hts (.code objectInit ⟨#[0xb1]⟩ 1 none) (List.mem_of_getElem? (i := 3) rfl)) rfl (by rw [hml]; exact hl.1) rfl dX0_init_1 (Nat.le_of_ble_eq_true rfl) (Nat.le_of_ble_eq_true rfl) ?_
  refine W.eq (g2 := F0 m 4 ls []) rfl ?_
  refine lv_aload_n hx hb dX0_init_4 rfl (lv_at hl 0 rfl) ?_
  refine lv_sipush (v := 4096) hx hb dX0_init_5 (by decide) ?_
  refine va_newa (atype := .byte) (a0 := (4096, .inl (fun _ => 0))) (N' := 4096) (ty := .byte) hx hb (hts (.arrayClass .byte) (by decide +kernel)) rfl hK hP hD hS hA (fun cA => vp_cell_i cA 4096 (fun _ => 0)) (by decide +kernel) (by decide +kernel) (by decide +kernel) (Nat.le_of_ble_eq_true rfl) (show 0 + 4096 ≤ 4096 from by decide +kernel) dX0_init_8 (fun q1 cA1 H hK hP hD hS => ?_)
  have hP : va_P D vwCl [(q0, .inr (0, [.null, .int 0, .int 0, .int 0, .int 0, .int 0])), (q1, .inl (cA1, 4096, .inl (fun _ => 0)))] H := hP
  have hD : va_D A [(q0, .inr (0, [.null, .int 0, .int 0, .int 0, .int 0, .int 0])), (q1, .inl (cA1, 4096, .inl (fun _ => 0)))] := hD
  have hK : va_K D vwCl [(cA1, .byte)] s := hK
  refine W.widen (k := 1) (n := 4096) (by omega) (by omega) ?_
  refine va_putF (D := D) (ci := 0) (v := .ref q1) (ty := .array .byte) (C := RX0) (T := TX0) (N := 6) hx hb hts hin tyX0 tyX0_ok nmX0 hown hK hP hD hS 0 rfl rfl 0 (by decide) (hts (.fieldLink RX0 9 "EventLineDesk" "ring" "[B") (by decide +kernel)) (fun _ h9 => h9) rfl hnm rfl (by decide +kernel) rfl rfl (Nat.le_of_ble_eq_true rfl) dX0_init_10 (fun H locs hP hD hS => ?_)
  have hP : va_P D vwCl [(q0, .inr (0, [.ref q1, .int 0, .int 0, .int 0, .int 0, .int 0])), (q1, .inl (cA1, 4096, .inl (fun _ => 0)))] H := hP
  have hD : va_D A [(q0, .inr (0, [.ref q1, .int 0, .int 0, .int 0, .int 0, .int 0])), (q1, .inl (cA1, 4096, .inl (fun _ => 0)))] := hD
  refine lv_aload_n hx hb dX0_init_13 rfl (lv_at hl 0 rfl) ?_
  refine lv_iconst (v := 0) hx hb dX0_init_14 (by decide) ?_
  refine va_put (D := D) (ci := 0) (v := .int 0) (ty := .int) (C := RX0) (T := TX0) (N := 6) hx hb hts hin tyX0 tyX0_ok nmX0 hown hK hP hD hS 0 rfl rfl 1 (by decide) (hts (.fieldLink RX0 13 "EventLineDesk" "total" "I") (by decide +kernel)) (fun _ h9 => h9) rfl (by decide +kernel) rfl rfl (Nat.le_of_ble_eq_true rfl) dX0_init_15 (fun H locs hP hD hS => ?_)
  have hP : va_P D vwCl [(q0, .inr (0, [.ref q1, .int 0, .int 0, .int 0, .int 0, .int 0])), (q1, .inl (cA1, 4096, .inl (fun _ => 0)))] H := hP
  have hD : va_D A [(q0, .inr (0, [.ref q1, .int 0, .int 0, .int 0, .int 0, .int 0])), (q1, .inl (cA1, 4096, .inl (fun _ => 0)))] := hD
  refine lv_aload_n hx hb dX0_init_18 rfl (lv_at hl 0 rfl) ?_
  refine lv_iconst (v := 0) hx hb dX0_init_19 (by decide) ?_
  refine va_put (D := D) (ci := 0) (v := .int 0) (ty := .int) (C := RX0) (T := TX0) (N := 6) hx hb hts hin tyX0 tyX0_ok nmX0 hown hK hP hD hS 0 rfl rfl 2 (by decide) (hts (.fieldLink RX0 17 "EventLineDesk" "taken" "I") (by decide +kernel)) (fun _ h9 => h9) rfl (by decide +kernel) rfl rfl (Nat.le_of_ble_eq_true rfl) dX0_init_20 (fun H locs hP hD hS => ?_)
  have hP : va_P D vwCl [(q0, .inr (0, [.ref q1, .int 0, .int 0, .int 0, .int 0, .int 0])), (q1, .inl (cA1, 4096, .inl (fun _ => 0)))] H := hP
  have hD : va_D A [(q0, .inr (0, [.ref q1, .int 0, .int 0, .int 0, .int 0, .int 0])), (q1, .inl (cA1, 4096, .inl (fun _ => 0)))] := hD
  refine lv_aload_n hx hb dX0_init_23 rfl (lv_at hl 0 rfl) ?_
  refine lv_iconst (v := 0) hx hb dX0_init_24 (by decide) ?_
  refine va_put (D := D) (ci := 0) (v := .int 0) (ty := .int) (C := RX0) (T := TX0) (N := 6) hx hb hts hin tyX0 tyX0_ok nmX0 hown hK hP hD hS 0 rfl rfl 3 (by decide) (hts (.fieldLink RX0 20 "EventLineDesk" "endedLines" "I") (by decide +kernel)) (fun _ h9 => h9) rfl (by decide +kernel) rfl rfl (Nat.le_of_ble_eq_true rfl) dX0_init_25 (fun H locs hP hD hS => ?_)
  have hP : va_P D vwCl [(q0, .inr (0, [.ref q1, .int 0, .int 0, .int 0, .int 0, .int 0])), (q1, .inl (cA1, 4096, .inl (fun _ => 0)))] H := hP
  have hD : va_D A [(q0, .inr (0, [.ref q1, .int 0, .int 0, .int 0, .int 0, .int 0])), (q1, .inl (cA1, 4096, .inl (fun _ => 0)))] := hD
  refine lv_aload_n hx hb dX0_init_28 rfl (lv_at hl 0 rfl) ?_
  refine lv_iconst (v := (-1)) hx hb dX0_init_29 (by decide) ?_
  refine va_put (D := D) (ci := 0) (v := .int (-1)) (ty := .int) (C := RX0) (T := TX0) (N := 6) hx hb hts hin tyX0 tyX0_ok nmX0 hown hK hP hD hS 0 rfl rfl 4 (by decide) (hts (.fieldLink RX0 23 "EventLineDesk" "openKind" "I") (by decide +kernel)) (fun _ h9 => h9) rfl (by decide +kernel) rfl rfl (Nat.le_of_ble_eq_true rfl) dX0_init_30 (fun H locs hP hD hS => ?_)
  have hP : va_P D vwCl [(q0, .inr (0, [.ref q1, .int 0, .int 0, .int 0, .int (-1), .int 0])), (q1, .inl (cA1, 4096, .inl (fun _ => 0)))] H := hP
  have hD : va_D A [(q0, .inr (0, [.ref q1, .int 0, .int 0, .int 0, .int (-1), .int 0])), (q1, .inl (cA1, 4096, .inl (fun _ => 0)))] := hD
  refine lv_aload_n hx hb dX0_init_33 rfl (lv_at hl 0 rfl) ?_
  refine lv_iconst (v := 0) hx hb dX0_init_34 (by decide) ?_
  refine va_put (D := D) (ci := 0) (v := .int 0) (ty := .int) (C := RX0) (T := TX0) (N := 6) hx hb hts hin tyX0 tyX0_ok nmX0 hown hK hP hD hS 0 rfl rfl 5 (by decide) (hts (.fieldLink RX0 26 "EventLineDesk" "openStart" "I") (by decide +kernel)) (fun _ h9 => h9) rfl (by decide +kernel) rfl rfl (Nat.le_of_ble_eq_true rfl) dX0_init_35 (fun H locs hP hD hS => ?_)
  have hP : va_P D vwCl [(q0, .inr (0, [.ref q1, .int 0, .int 0, .int 0, .int (-1), .int 0])), (q1, .inl (cA1, 4096, .inl (fun _ => 0)))] H := hP
  have hD : va_D A [(q0, .inr (0, [.ref q1, .int 0, .int 0, .int 0, .int (-1), .int 0])), (q1, .inl (cA1, 4096, .inl (fun _ => 0)))] := hD
  exact W.vret hx hb hr (fun t ht hW => ⟨⟨(cA1, q1), rfl, trivial, by rw [ht]; exact hP, va_K.moved hW.alike hK, hD⟩, hS.F ht⟩) hS.2.2 dX0_init_38
