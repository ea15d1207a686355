set_option maxHeartbeats 4000000 in
set_option maxRecDepth 100000 in
theorem cD_lesLoop (l : Launch) (D : va_G) (cA : ClassId) (q0 q1 : Nat) (rg : Nat → Int32) (tt tk en ki os : Int32) (x1 : Int32) (r : Int32) {p : Program} {e : Env} {s : State} {m : MethodId} {below : List Frame} {meth : Method} {c : Code} {args : Array Value} {H : Heap} {locs : List Loc} {Q : State → Prop} {A : Nat → Prop} (hx : p.tables.exec = Jvm.exec) (hb : c.code = cX0_lineEndsFrom) (hts : ∀ x ∈ wsX0_lineEndsFrom, x.before args s = true) (hown : s.vm.findClass RX0 = some m.cls) (hml : c.maxLocals = 4) (hP : va_P D vwCl (dkW cA q0 q1 (rg, tt, tk, en, ki, os)) H) (hK : va_K D vwCl [(cA, .byte)] s) (hD : va_D A (dkW cA q0 q1 (rg, tt, tk, en, ki, os)))
    (hex : ∀ (ls : Array Slot) (pos : Int32), lv_has ls 4 [(3, .int pos), (2, .int r), (0, .ref q0), (1, .int x1)] → W p l e { frames := 1, cells := 0, slots := 0, locals := 22 } s m args below meth c H locs 0 0 Q (F0 m 31 ls [])) :
    ∀ (n i : Nat) (acc pos : Int32) (ls : Array Slot), pos = nI i → tt = nI (i + n) → i + n < 2 ^ 31 → dk_les (rg, tt, tk, en, ki, os) acc pos n = r → lv_has ls 4 [(3, .int pos), (2, .int acc), (0, .ref q0), (1, .int x1)] → W p l e { frames := 1, cells := 0, slots := 0, locals := 22 } s m args below meth c H locs 0 0 Q (F0 m 4 ls []) := by
  have hin : ∀ w ∈ wsX00, w ∈ wsX0_lineEndsFrom := by decide +kernel
  have lk13 := hts (.fieldLink RX0 13 "EventLineDesk" "total" "I") (by decide +kernel)
  have lk9 := hts (.fieldLink RX0 9 "EventLineDesk" "ring" "[B") (by decide +kernel)
  intro n
  induction n with
  | zero =>
    intro i acc pos ls hp ht hlt hr9 hl
    refine lv_iload_n hx hb dX0_lineEndsFrom_4 rfl (lv_at hl 0 rfl) ?_
    refine lv_aload_n hx hb dX0_lineEndsFrom_5 rfl (lv_at hl 2 rfl) ?_
    refine va_get (D := D) (ci := 0) (v := .int tt) (C := RX0) (T := TX0) (N := 6) hx hb hts hin hown hK hP 0 rfl rfl 1 (by decide) lk13 (fun _ h9 => h9) rfl dX0_lineEndsFrom_6 ?_
    refine lv_icmp_ge (tgt := 31) hx hb dX0_lineEndsFrom_9 (by decide) (fun c1 => ?_) (fun c1 => ?_)
    · have hr9 : acc = r := hr9
      subst hr9
      exact hex ls pos hl
    · exact absurd c1 (not_not_intro (by rw [hp, ht]; exact nI_le (Nat.le_refl _) (by omega)))
  | succ n ih =>
    intro i acc pos ls hp ht hlt hr9 hl
    refine lv_iload_n hx hb dX0_lineEndsFrom_4 rfl (lv_at hl 0 rfl) ?_
    refine lv_aload_n hx hb dX0_lineEndsFrom_5 rfl (lv_at hl 2 rfl) ?_
    refine va_get (D := D) (ci := 0) (v := .int tt) (C := RX0) (T := TX0) (N := 6) hx hb hts hin hown hK hP 0 rfl rfl 1 (by decide) lk13 (fun _ h9 => h9) rfl dX0_lineEndsFrom_6 ?_
    refine lv_icmp_ge (tgt := 31) hx hb dX0_lineEndsFrom_9 (by decide) (fun c1 => ?_) (fun c1 => ?_)
    · exact absurd c1 (by rw [hp, ht]; exact nI_ge (by omega) hlt)
    · refine lv_aload_n hx hb dX0_lineEndsFrom_12 rfl (lv_at hl 2 rfl) ?_
      refine lv_iload_n hx hb dX0_lineEndsFrom_13 rfl (lv_at hl 0 rfl) ?_
      refine kk_readV (ci := 0) (q0 := 0) (rest := []) ⟨hx, hb, hml, hown, hts⟩ (cD_byteAt l D cA q0 q1 rg tt tk en ki os pos) (cwV 1 hts gX0_lineEndsFrom_X0_byteAt rfl rfl rfl (by decide +kernel) ⟨Nat.le_of_ble_eq_true rfl, Nat.le_of_ble_eq_true rfl⟩) hK hP hD rfl rfl rfl hl.1 rfl (Nat.le_of_ble_eq_true rfl) dX0_lineEndsFrom_14 ⟨Nat.zero_le _, Nat.zero_le _⟩ ?_
      refine lv_topi (fun t2 et2 => ?_)
      refine lv_bipush (v := 10) hx hb dX0_lineEndsFrom_17 (by decide) ?_
      refine lv_icmp_ne (tgt := 25) hx hb dX0_lineEndsFrom_19 (by decide) (fun c3 => ?_) (fun c3 => ?_)
      · obtain ⟨t4, et4⟩ : ∃ y : Int32, y = pos + 1 := ⟨_, rfl⟩
        refine lv_iinc (v := t4) (lv' := [(3, .int t4), (2, .int acc), (0, .ref q0), (1, .int x1)]) hx hb dX0_lineEndsFrom_25 hl (k := 0) rfl (by rw [et4]; rfl) (by decide) rfl (fun ls hl => ?_)
        refine lv_goto (tgt := 4) hx hb dX0_lineEndsFrom_28 (by decide) ?_
        refine ih (i + 1) acc t4 ls (by rw [et4, hp]; exact nI_1 i) (by rw [ht]; congr 1; omega) (by omega) ?_ (lv_sub hl [0, 1, 2, 3] rfl)
        rw [← hr9]
        subst et4 et2
        simp only [dk_les, if_pos c3]
      · obtain ⟨t5, et5⟩ : ∃ y : Int32, y = acc + 1 := ⟨_, rfl⟩
        refine lv_iinc (v := t5) (lv' := [(2, .int t5), (3, .int pos), (0, .ref q0), (1, .int x1)]) hx hb dX0_lineEndsFrom_22 hl (k := 1) rfl (by rw [et5]; rfl) (by decide) rfl (fun ls hl => ?_)
        obtain ⟨t6, et6⟩ : ∃ y : Int32, y = pos + 1 := ⟨_, rfl⟩
        refine lv_iinc (v := t6) (lv' := [(3, .int t6), (2, .int t5), (0, .ref q0), (1, .int x1)]) hx hb dX0_lineEndsFrom_25 hl (k := 1) rfl (by rw [et6]; rfl) (by decide) rfl (fun ls hl => ?_)
        refine lv_goto (tgt := 4) hx hb dX0_lineEndsFrom_28 (by decide) ?_
        refine ih (i + 1) t5 t6 ls (by rw [et6, hp]; exact nI_1 i) (by rw [ht]; congr 1; omega) (by omega) ?_ (lv_sub hl [0, 1, 2, 3] rfl)
        rw [← hr9]
        subst et6 et5 et2
        simp only [dk_les, if_neg (not_not_intro c3)]
set_option maxHeartbeats 4000000 in
set_option maxRecDepth 100000 in
theorem cD_lineEndsFrom (l : Launch) (D : va_G) (cA : ClassId) (q0 q1 : Nat) (rg : Nat → Int32) (tt tk en ki os : Int32) (x1 : Int32) (hy : dk_rng x1 tt) : dkR l yX0_lineEndsFrom wsX0_lineEndsFrom ({ frames := 1, cells := 0, slots := 0, locals := 22 }) D cA q0 q1 (rg, tt, tk, en, ki, os) [.int x1] (dk_lef (rg, tt, tk, en, ki, os) x1) := by
  refine kk_of (cc := cX0_lineEndsFrom) (maxL := 4) (ret := (some .int)) (by decide) rfl (Nat.le_of_ble_eq_true rfl) ?_
  intro p e s m below meth c ls hx hb hr hts hown hlocks hml hnm hP hK hD hl
  have hown : s.vm.findClass RX0 = some m.cls := hown
  have hl : lv_has ls 4 [(0, .ref q0), (1, .int x1)] := hl
  have hin : ∀ w ∈ wsX00, w ∈ wsX0_lineEndsFrom := by decide +kernel
  have lk13 := hts (.fieldLink RX0 13 "EventLineDesk" "total" "I") (by decide +kernel)
  refine lv_iconst (v := 0) hx hb dX0_lineEndsFrom_0 (by decide) ?_
  refine lv_istore_n (lv' := [(2, .int 0), (0, .ref q0), (1, .int x1)]) hx hb dX0_lineEndsFrom_1 rfl hl (by decide) rfl (fun ls hl => ?_)
  refine lv_iload_n hx hb dX0_lineEndsFrom_2 rfl (lv_at hl 2 rfl) ?_
  refine lv_istore_n (lv' := [(3, .int x1), (2, .int 0), (0, .ref q0), (1, .int x1)]) hx hb dX0_lineEndsFrom_3 rfl hl (by decide) rfl (fun ls hl => ?_)
  obtain ⟨i, n, hi, hn, hlt⟩ := hy
  refine cD_lesLoop l D cA q0 q1 rg tt tk en ki os x1 (dk_les (rg, tt, tk, en, ki, os) 0 x1 n) hx hb hts hown hml hP hK hD (fun ls pos hl => ?_) n i 0 x1 ls hi hn hlt rfl (lv_sub hl [0, 1, 2, 3] rfl)
  have hq : dk_les (rg, tt, tk, en, ki, os) 0 x1 n = dk_lef (rg, tt, tk, en, ki, os) x1 := by rw [hi]; exact (dk_lefN hn hlt).symm
  rw [hq] at hl
  refine lv_iload_n hx hb dX0_lineEndsFrom_31 rfl (lv_at hl 1 rfl) ?_
  have hres : (dk_lef (rg, tt, tk, en, ki, os) x1) = dk_lef (rg, tt, tk, en, ki, os) x1 := by
    first | rfl | (simp only [dk_lef]; done) | (simp [dk_lef]; done)
  exact W.iret (v := (dk_lef (rg, tt, tk, en, ki, os) x1)) hx hb hr (fun t ht hW => ⟨congrArg (fun z => Outcome.returned (some (Value.int z))) hres, ht⟩) (fun q h => absurd h List.not_mem_nil) dX0_lineEndsFrom_32
set_option maxHeartbeats 4000000 in
set_option maxRecDepth 100000 in
theorem cD_back (l : Launch) (D : va_G) (cA : ClassId) (q0 q1 : Nat) (rg : Nat → Int32) (tt tk en ki os : Int32) (x1 : Int32) (hb0 : dk_rng tk tt) : dkI l yX0_back wsX0_back ({ frames := 2, cells := 0, slots := 0, locals := 45 }) D cA q0 q1 (rg, tt, tk, en, ki, os) [.int x1] (dk_back (rg, tt, tk, en, ki, os) x1).1 (dk_back (rg, tt, tk, en, ki, os) x1).2 := by
  refine kk_of (cc := cX0_back) (maxL := 2) (ret := (some .boolean)) (by decide) rfl (Nat.le_of_ble_eq_true rfl) ?_
  intro p e s m below meth c ls hx hb hr hts hown hlocks hml hnm hP hK hD hl
  have hown : s.vm.findClass RX0 = some m.cls := hown
  have hl : lv_has ls 2 [(0, .ref q0), (1, .int x1)] := hl
  have hin : ∀ w ∈ wsX00, w ∈ wsX0_back := by decide +kernel
  have lk17 := hts (.fieldLink RX0 17 "EventLineDesk" "taken" "I") (by decide +kernel)
  have lk13 := hts (.fieldLink RX0 13 "EventLineDesk" "total" "I") (by decide +kernel)
  have lk20 := hts (.fieldLink RX0 20 "EventLineDesk" "endedLines" "I") (by decide +kernel)
  have lk23 := hts (.fieldLink RX0 23 "EventLineDesk" "openKind" "I") (by decide +kernel)
  generalize hAe : kk_A (dkW cA q0 q1 (rg, tt, tk, en, ki, os)) = A at hD ⊢
  have hS : va_S A s.heap s.heap [] := va_S.rf
  refine lv_iload_n hx hb dX0_back_0 rfl (lv_at hl 1 rfl) ?_
  refine lv_aload_n hx hb dX0_back_1 rfl (lv_at hl 0 rfl) ?_
  refine va_get (D := D) (ci := 0) (v := .int tk) (C := RX0) (T := TX0) (N := 6) hx hb hts hin hown hK hP 0 rfl rfl 2 (by decide) lk17 (fun _ h9 => h9) rfl dX0_back_2 ?_
  refine lv_icmp_lt (tgt := 24) hx hb dX0_back_5 (by decide) (fun c1 => ?_) (fun c1 => ?_)
  · refine lv_iconst (v := 0) hx hb dX0_back_24 (by decide) ?_
    have hres : 0 = (dk_back (rg, tt, tk, en, ki, os) x1).1 := by
      first | rfl | (simp only [dk_back, dk_b2, if_pos c1]; done) | (simp [dk_back, dk_b2, if_pos c1]; done)
    have hre2 : (rg, tt, tk, en, ki, os) = (dk_back (rg, tt, tk, en, ki, os) x1).2 := by
      first | rfl | (simp only [dk_back, dk_b2, if_pos c1]; done) | (simp [dk_back, dk_b2, if_pos c1]; done)
    exact W.zret (v := 0) (ty := .boolean) hx hb hr rfl (fun t ht hW => ⟨⟨0, (rg, tt, tk, en, ki, os), rfl, ⟨hres, hre2⟩, by show va_P D vwCl _ t.heap; rw [ht]; exact hP⟩, hS.F ht⟩) hS.2.2 dX0_back_25
  · refine lv_iload_n hx hb dX0_back_8 rfl (lv_at hl 1 rfl) ?_
    refine lv_aload_n hx hb dX0_back_9 rfl (lv_at hl 0 rfl) ?_
    refine va_get (D := D) (ci := 0) (v := .int tt) (C := RX0) (T := TX0) (N := 6) hx hb hts hin hown hK hP 0 rfl rfl 1 (by decide) lk13 (fun _ h9 => h9) rfl dX0_back_10 ?_
    refine lv_icmp_gt (tgt := 24) hx hb dX0_back_13 (by decide) (fun c2 => ?_) (fun c2 => ?_)
    · refine lv_iconst (v := 0) hx hb dX0_back_24 (by decide) ?_
      have hres : 0 = (dk_back (rg, tt, tk, en, ki, os) x1).1 := by
        first | rfl | (simp only [dk_back, dk_b2, if_neg c1, if_pos c2]; done) | (simp [dk_back, dk_b2, if_neg c1, if_pos c2]; done)
      have hre2 : (rg, tt, tk, en, ki, os) = (dk_back (rg, tt, tk, en, ki, os) x1).2 := by
        first | rfl | (simp only [dk_back, dk_b2, if_neg c1, if_pos c2]; done) | (simp [dk_back, dk_b2, if_neg c1, if_pos c2]; done)
      exact W.zret (v := 0) (ty := .boolean) hx hb hr rfl (fun t ht hW => ⟨⟨0, (rg, tt, tk, en, ki, os), rfl, ⟨hres, hre2⟩, by show va_P D vwCl _ t.heap; rw [ht]; exact hP⟩, hS.F ht⟩) hS.2.2 dX0_back_25
    · refine lv_aload_n hx hb dX0_back_16 rfl (lv_at hl 0 rfl) ?_
      refine lv_iload_n hx hb dX0_back_17 rfl (lv_at hl 1 rfl) ?_
      refine kk_readV (ci := 0) (q0 := 0) (rest := []) ⟨hx, hb, hml, hown, hts⟩ (cD_isBetweenLines l D cA q0 q1 rg tt tk en ki os x1) (cwV 1 hts gX0_back_X0_isBetweenLines rfl rfl rfl (by decide +kernel) ⟨Nat.le_of_ble_eq_true rfl, Nat.le_of_ble_eq_true rfl⟩) hK hP hD rfl rfl rfl hl.1 rfl (Nat.le_of_ble_eq_true rfl) dX0_back_18 ⟨Nat.zero_le _, Nat.zero_le _⟩ ?_
      refine lv_topi (fun t3 et3 => ?_)
      refine lv_if_ne (tgt := 26) hx hb dX0_back_21 (by decide) (fun c4 => ?_) (fun c4 => ?_)
      · refine lv_aload_n hx hb dX0_back_26 rfl (lv_at hl 0 rfl) ?_
        refine lv_dup hx hb dX0_back_27 rfl ?_
        refine va_get (D := D) (ci := 0) (v := .int en) (C := RX0) (T := TX0) (N := 6) hx hb hts hin hown hK hP 0 rfl rfl 3 (by decide) lk20 (fun _ h9 => h9) rfl dX0_back_28 ?_
        refine lv_aload_n hx hb dX0_back_31 rfl (lv_at hl 0 rfl) ?_
        refine lv_iload_n hx hb dX0_back_32 rfl (lv_at hl 1 rfl) ?_
        refine kk_readV (ci := 0) (q0 := 0) (rest := [.int en, .ref q0]) ⟨hx, hb, hml, hown, hts⟩ (cD_lineEndsFrom l D cA q0 q1 rg tt tk en ki os x1 (dk_mid hb0 c1 c2)) (cwV 1 hts gX0_back_X0_lineEndsFrom rfl rfl rfl (by decide +kernel) ⟨Nat.le_of_ble_eq_true rfl, Nat.le_of_ble_eq_true rfl⟩) hK hP hD rfl rfl rfl hl.1 rfl (Nat.le_of_ble_eq_true rfl) dX0_back_33 ⟨Nat.zero_le _, Nat.zero_le _⟩ ?_
        refine lv_topi (fun t5 et5 => ?_)
        refine lv_isub hx hb dX0_back_36 ?_
        refine lv_topi (fun t6 et6 => ?_)
        refine va_put (D := D) (ci := 0) (v := .int t6) (ty := .int) (C := RX0) (T := TX0) (N := 6) hx hb hts hin tyX0 tyX0_ok nmX0 hown hK hP hD hS 0 rfl rfl 3 (by decide) lk20 (fun _ h9 => h9) rfl (by decide +kernel) rfl rfl (Nat.le_of_ble_eq_true rfl) dX0_back_37 (fun H locs hP hD hS => ?_)
        have hP : va_P D vwCl (dkW cA q0 q1 (rg, tt, tk, t6, ki, os)) H := hP
        have hD : va_D A (dkW cA q0 q1 (rg, tt, tk, t6, ki, os)) := hD
        refine lv_aload_n hx hb dX0_back_40 rfl (lv_at hl 0 rfl) ?_
        refine lv_iload_n hx hb dX0_back_41 rfl (lv_at hl 1 rfl) ?_
        refine va_put (D := D) (ci := 0) (v := .int x1) (ty := .int) (C := RX0) (T := TX0) (N := 6) hx hb hts hin tyX0 tyX0_ok nmX0 hown hK hP hD hS 0 rfl rfl 1 (by decide) lk13 (fun _ h9 => h9) rfl (by decide +kernel) rfl rfl (Nat.le_of_ble_eq_true rfl) dX0_back_42 (fun H locs hP hD hS => ?_)
        have hP : va_P D vwCl (dkW cA q0 q1 (rg, x1, tk, t6, ki, os)) H := hP
        have hD : va_D A (dkW cA q0 q1 (rg, x1, tk, t6, ki, os)) := hD
        refine lv_aload_n hx hb dX0_back_45 rfl (lv_at hl 0 rfl) ?_
        refine lv_iconst (v := (-1)) hx hb dX0_back_46 (by decide) ?_
        refine va_put (D := D) (ci := 0) (v := .int (-1)) (ty := .int) (C := RX0) (T := TX0) (N := 6) hx hb hts hin tyX0 tyX0_ok nmX0 hown hK hP hD hS 0 rfl rfl 4 (by decide) lk23 (fun _ h9 => h9) rfl (by decide +kernel) rfl rfl (Nat.le_of_ble_eq_true rfl) dX0_back_47 (fun H locs hP hD hS => ?_)
        have hP : va_P D vwCl (dkW cA q0 q1 (rg, x1, tk, t6, (-1), os)) H := hP
        have hD : va_D A (dkW cA q0 q1 (rg, x1, tk, t6, (-1), os)) := hD
        refine lv_iconst (v := 1) hx hb dX0_back_50 (by decide) ?_
        have hres : 1 = (dk_back (rg, tt, tk, en, ki, os) x1).1 := by
          subst et6 et5 et3
          first | rfl | (simp only [dk_back, dk_b2, if_neg c1, if_neg c2, if_pos c4]; done) | (simp [dk_back, dk_b2, if_neg c1, if_neg c2, if_pos c4]; done)
        have hre2 : (rg, x1, tk, t6, (-1), os) = (dk_back (rg, tt, tk, en, ki, os) x1).2 := by
          subst et6 et5 et3
          first | rfl | (simp only [dk_back, dk_b2, if_neg c1, if_neg c2, if_pos c4]; done) | (simp [dk_back, dk_b2, if_neg c1, if_neg c2, if_pos c4]; done)
        exact W.zret (v := 1) (ty := .boolean) hx hb hr rfl (fun t ht hW => ⟨⟨1, (rg, x1, tk, t6, (-1), os), rfl, ⟨hres, hre2⟩, by show va_P D vwCl _ t.heap; rw [ht]; exact hP⟩, hS.F ht⟩) hS.2.2 dX0_back_51
      · refine lv_iconst (v := 0) hx hb dX0_back_24 (by decide) ?_
        have hres : 0 = (dk_back (rg, tt, tk, en, ki, os) x1).1 := by
          subst et3
          first | rfl | (simp only [dk_back, dk_b2, if_neg c1, if_neg c2, if_neg (not_not_intro c4)]; done) | (simp [dk_back, dk_b2, if_neg c1, if_neg c2, if_neg (not_not_intro c4)]; done)
        have hre2 : (rg, tt, tk, en, ki, os) = (dk_back (rg, tt, tk, en, ki, os) x1).2 := by
          subst et3
          first | rfl | (simp only [dk_back, dk_b2, if_neg c1, if_neg c2, if_neg (not_not_intro c4)]; done) | (simp [dk_back, dk_b2, if_neg c1, if_neg c2, if_neg (not_not_intro c4)]; done)
        exact W.zret (v := 0) (ty := .boolean) hx hb hr rfl (fun t ht hW => ⟨⟨0, (rg, tt, tk, en, ki, os), rfl, ⟨hres, hre2⟩, by show va_P D vwCl _ t.heap; rw [ht]; exact hP⟩, hS.F ht⟩) hS.2.2 dX0_back_25
set_option maxHeartbeats 4000000 in
set_option maxRecDepth 100000 in
theorem cD_takeLoop (l : Launch) (D : va_G) (cA : ClassId) (q0 q1 : Nat) (rg : Nat → Int32) (tt tk en ki os : Int32) (sz : Int32) (r : Int64) {p : Program} {e : Env} {s : State} {m : MethodId} {below : List Frame} {meth : Method} {c : Code} {args : Array Value} {H : Heap} {locs : List Loc} {Q : State → Prop} {A : Nat → Prop} (hx : p.tables.exec = Jvm.exec) (hb : c.code = cX0_take) (hts : ∀ x ∈ wsX0_take, x.before args s = true) (hown : s.vm.findClass RX0 = some m.cls) (hml : c.maxLocals = 5) (hP : va_P D vwCl (dkW cA q0 q1 (rg, tt, tk, en, ki, os)) H) (hK : va_K D vwCl [(cA, .byte)] s) (hD : va_D A (dkW cA q0 q1 (rg, tt, tk, en, ki, os)))
    (hex : ∀ (ls : Array Slot) (i : Int32), lv_has ls 5 [(4, .int i), (2, .long r), (1, .int sz), (0, .ref q0)] → W p l e { frames := 1, cells := 0, slots := 0, locals := 22 } s m args below meth c H locs 0 0 Q (F0 m 68 ls [])) :
    ∀ (n j : Nat) (acc : Int64) (i : Int32) (ls : Array Slot), i = nI j → j + n = 7 → dk_pc (rg, tt, tk, en, ki, os) sz acc i n = r → lv_has ls 5 [(4, .int i), (2, .long acc), (1, .int sz), (0, .ref q0)] → W p l e { frames := 1, cells := 0, slots := 0, locals := 22 } s m args below meth c H locs 0 0 Q (F0 m 27 ls []) := by
  have hin : ∀ w ∈ wsX00, w ∈ wsX0_take := by decide +kernel
  have lk17 := hts (.fieldLink RX0 17 "EventLineDesk" "taken" "I") (by decide +kernel)
  have lk23 := hts (.fieldLink RX0 23 "EventLineDesk" "openKind" "I") (by decide +kernel)
  have lk13 := hts (.fieldLink RX0 13 "EventLineDesk" "total" "I") (by decide +kernel)
  have lk26 := hts (.fieldLink RX0 26 "EventLineDesk" "openStart" "I") (by decide +kernel)
  have lk9 := hts (.fieldLink RX0 9 "EventLineDesk" "ring" "[B") (by decide +kernel)
  intro n
  induction n with
  | zero =>
    intro j acc i ls hp hj hr9 hl
    refine lv_iload hx hb dX0_take_27 (lv_at hl 0 rfl) ?_
    refine lv_bipush (v := 7) hx hb dX0_take_29 (by decide) ?_
    refine lv_icmp_ge (tgt := 68) hx hb dX0_take_31 (by decide) (fun c1 => ?_) (fun c1 => ?_)
    · have hr9 : acc = r := hr9
      subst hr9
      exact hex ls i hl
    · exact absurd c1 (not_not_intro (by rw [hp, show j = 7 by omega]; decide))
  | succ n ih =>
    intro j acc i ls hp hj hr9 hl
    refine lv_iload hx hb dX0_take_27 (lv_at hl 0 rfl) ?_
    refine lv_bipush (v := 7) hx hb dX0_take_29 (by decide) ?_
    refine lv_icmp_ge (tgt := 68) hx hb dX0_take_31 (by decide) (fun c1 => ?_) (fun c1 => ?_)
    · exact absurd c1 (by rw [hp]; exact nI_ge (b := 7) (by omega) (by decide))
    · refine lv_lload_n hx hb dX0_take_34 rfl (lv_at hl 1 rfl) ?_
      refine lv_bipush (v := 8) hx hb dX0_take_35 (by decide) ?_
      refine lv_lshl hx hb dX0_take_37 rfl ?_
      refine lv_topl (fun t2 et2 => ?_)
      refine lv_iload hx hb dX0_take_38 (lv_at hl 0 rfl) ?_
      refine lv_iload_n hx hb dX0_take_40 rfl (lv_at hl 2 rfl) ?_
      refine lv_icmp_ge (tgt := 58) hx hb dX0_take_41 (by decide) (fun c3 => ?_) (fun c3 => ?_)
      · refine lv_iconst (v := 0) hx hb dX0_take_58 (by decide) ?_
        refine lv_i2l hx hb dX0_take_59 rfl ?_
        refine lv_topl (fun t4 et4 => ?_)
        refine lv_lor hx hb dX0_take_60 ?_
        refine lv_topl (fun t5 et5 => ?_)
        refine lv_lstore_n (lv' := [(2, .long t5), (4, .int i), (1, .int sz), (0, .ref q0)]) hx hb dX0_take_61 rfl hl (by decide) rfl (fun ls hl => ?_)
        obtain ⟨t6, et6⟩ : ∃ y : Int32, y = i + 1 := ⟨_, rfl⟩
        refine lv_iinc (v := t6) (lv' := [(4, .int t6), (2, .long t5), (1, .int sz), (0, .ref q0)]) hx hb dX0_take_62 hl (k := 1) rfl (by rw [et6]; rfl) (by decide) rfl (fun ls hl => ?_)
        refine lv_goto (tgt := 27) hx hb dX0_take_65 (by decide) ?_
        refine ih (j + 1) t5 t6 ls (by rw [et6, hp]; exact nI_1 j) (by omega) ?_ (lv_sub hl [0, 1, 2, 3] rfl)
        rw [← hr9]
        subst et6 et5 et4 et2
        simp only [dk_pc, if_pos c3]
      · refine lv_aload_n hx hb dX0_take_44 rfl (lv_at hl 3 rfl) ?_
        refine lv_aload_n hx hb dX0_take_45 rfl (lv_at hl 3 rfl) ?_
        refine va_get (D := D) (ci := 0) (v := .int tk) (C := RX0) (T := TX0) (N := 6) hx hb hts hin hown hK hP 0 rfl rfl 2 (by decide) lk17 (fun _ h9 => h9) rfl dX0_take_46 ?_
        refine lv_iload hx hb dX0_take_49 (lv_at hl 0 rfl) ?_
        refine lv_iadd hx hb dX0_take_51 ?_
        refine lv_topi (fun t7 et7 => ?_)
        refine kk_readV (ci := 0) (q0 := 0) (rest := [.long t2]) ⟨hx, hb, hml, hown, hts⟩ (cD_byteAt l D cA q0 q1 rg tt tk en ki os t7) (cwV 1 hts gX0_take_X0_byteAt rfl rfl rfl (by decide +kernel) ⟨Nat.le_of_ble_eq_true rfl, Nat.le_of_ble_eq_true rfl⟩) hK hP hD rfl rfl rfl hl.1 rfl (Nat.le_of_ble_eq_true rfl) dX0_take_52 ⟨Nat.zero_le _, Nat.zero_le _⟩ ?_
        refine lv_topi (fun t8 et8 => ?_)
        refine lv_goto (tgt := 59) hx hb dX0_take_55 (by decide) ?_
        refine lv_i2l hx hb dX0_take_59 rfl ?_
        refine lv_topl (fun t9 et9 => ?_)
        refine lv_lor hx hb dX0_take_60 ?_
        refine lv_topl (fun t10 et10 => ?_)
        refine lv_lstore_n (lv' := [(2, .long t10), (4, .int i), (1, .int sz), (0, .ref q0)]) hx hb dX0_take_61 rfl hl (by decide) rfl (fun ls hl => ?_)
        obtain ⟨t11, et11⟩ : ∃ y : Int32, y = i + 1 := ⟨_, rfl⟩
        refine lv_iinc (v := t11) (lv' := [(4, .int t11), (2, .long t10), (1, .int sz), (0, .ref q0)]) hx hb dX0_take_62 hl (k := 1) rfl (by rw [et11]; rfl) (by decide) rfl (fun ls hl => ?_)
        refine lv_goto (tgt := 27) hx hb dX0_take_65 (by decide) ?_
        refine ih (j + 1) t10 t11 ls (by rw [et11, hp]; exact nI_1 j) (by omega) ?_ (lv_sub hl [0, 1, 2, 3] rfl)
        rw [← hr9]
        subst et11 et10 et9 et8 et7 et2
        simp only [dk_pc, if_neg c3]
set_option maxHeartbeats 4000000 in
set_option maxRecDepth 100000 in
theorem cD_take (l : Launch) (D : va_G) (cA : ClassId) (q0 q1 : Nat) (rg : Nat → Int32) (tt tk en ki os : Int32)  : dkL l yX0_take wsX0_take ({ frames := 1, cells := 0, slots := 0, locals := 22 }) D cA q0 q1 (rg, tt, tk, en, ki, os) [] (dk_take (rg, tt, tk, en, ki, os)).1 (dk_take (rg, tt, tk, en, ki, os)).2 := by
  refine kk_of (cc := cX0_take) (maxL := 5) (ret := (some .long)) (by decide) rfl (Nat.le_of_ble_eq_true rfl) ?_
  intro p e s m below meth c ls hx hb hr hts hown hlocks hml hnm hP hK hD hl
  have hown : s.vm.findClass RX0 = some m.cls := hown
  have hl : lv_has ls 5 [(0, .ref q0)] := hl
  have hin : ∀ w ∈ wsX00, w ∈ wsX0_take := by decide +kernel
  have lk17 := hts (.fieldLink RX0 17 "EventLineDesk" "taken" "I") (by decide +kernel)
  generalize hAe : kk_A (dkW cA q0 q1 (rg, tt, tk, en, ki, os)) = A at hD ⊢
  have hS : va_S A s.heap s.heap [] := va_S.rf
  refine lv_aload_n hx hb dX0_take_0 rfl (lv_at hl 0 rfl) ?_
  refine kk_readV (ci := 0) (q0 := 0) (rest := []) ⟨hx, hb, hml, hown, hts⟩ (cD_endOfEndedLines l D cA q0 q1 rg tt tk en ki os) (cwV 0 hts gX0_take_X0_endOfEndedLines rfl rfl rfl (by decide +kernel) ⟨Nat.le_of_ble_eq_true rfl, Nat.le_of_ble_eq_true rfl⟩) hK hP hD rfl rfl rfl hl.1 rfl (Nat.le_of_ble_eq_true rfl) dX0_take_1 ⟨Nat.zero_le _, Nat.zero_le _⟩ ?_
  refine lv_topi (fun t1 et1 => ?_)
  refine lv_aload_n hx hb dX0_take_4 rfl (lv_at hl 0 rfl) ?_
  refine va_get (D := D) (ci := 0) (v := .int tk) (C := RX0) (T := TX0) (N := 6) hx hb hts hin hown hK hP 0 rfl rfl 2 (by decide) lk17 (fun _ h9 => h9) rfl dX0_take_5 ?_
  refine lv_isub hx hb dX0_take_8 ?_
  refine lv_topi (fun t2 et2 => ?_)
  refine lv_bipush (v := 7) hx hb dX0_take_9 (by decide) ?_
  refine va_mmin hx hb (hml.trans hl.1.symm) hown (hts (.methodLink RX0 63 Lib.Math.min.name) (by decide +kernel)) (hts (.static Lib.Math.min.name) (by decide +kernel)) (hts (.initialized "java/lang/Math") (by decide +kernel)) (hts (.code Lib.Math.min.name Lib.Math.min.code 2 (some .int)) (List.mem_of_getElem? (i := 5) rfl)) (Nat.le_of_ble_eq_true rfl) (Nat.le_of_ble_eq_true rfl) (Nat.zero_le _) (Nat.zero_le _) dX0_take_11 ?_
  refine lv_topi (fun t3 et3 => ?_)
  refine lv_istore_n (lv' := [(1, .int t3), (0, .ref q0)]) hx hb dX0_take_14 rfl hl (by decide) rfl (fun ls hl => ?_)
  refine lv_iload_n hx hb dX0_take_15 rfl (lv_at hl 0 rfl) ?_
  refine lv_if_gt (tgt := 21) hx hb dX0_take_16 (by decide) (fun c4 => ?_) (fun c4 => ?_)
  · refine lv_iload_n hx hb dX0_take_21 rfl (lv_at hl 0 rfl) ?_
    refine lv_i2l hx hb dX0_take_22 rfl ?_
    refine lv_topl (fun t5 et5 => ?_)
    refine lv_lstore_n (lv' := [(2, .long t5), (1, .int t3), (0, .ref q0)]) hx hb dX0_take_23 rfl hl (by decide) rfl (fun ls hl => ?_)
    refine lv_iconst (v := 0) hx hb dX0_take_24 (by decide) ?_
    refine lv_istore (lv' := [(4, .int 0), (2, .long t5), (1, .int t3), (0, .ref q0)]) hx hb dX0_take_25 hl (by decide) rfl (fun ls hl => ?_)
    refine cD_takeLoop l D cA q0 q1 rg tt tk en ki os t3 (dk_pc (rg, tt, tk, en, ki, os) t3 t5 0 7) hx hb hts hown hml hP hK hD (fun ls i hl => ?_) 7 0 t5 0 ls nI_0.symm rfl rfl (lv_sub hl [0, 1, 2, 3] rfl)
    obtain ⟨t6, et6⟩ : ∃ y : Int64, y = dk_pc (rg, tt, tk, en, ki, os) t3 t5 0 7 := ⟨_, rfl⟩
    rw [← et6] at hl
    refine lv_aload_n hx hb dX0_take_68 rfl (lv_at hl 3 rfl) ?_
    refine lv_dup hx hb dX0_take_69 rfl ?_
    refine va_get (D := D) (ci := 0) (v := .int tk) (C := RX0) (T := TX0) (N := 6) hx hb hts hin hown hK hP 0 rfl rfl 2 (by decide) lk17 (fun _ h9 => h9) rfl dX0_take_70 ?_
    refine lv_iload_n hx hb dX0_take_73 rfl (lv_at hl 2 rfl) ?_
    refine lv_iadd hx hb dX0_take_74 ?_
    refine lv_topi (fun t7 et7 => ?_)
    refine va_put (D := D) (ci := 0) (v := .int t7) (ty := .int) (C := RX0) (T := TX0) (N := 6) hx hb hts hin tyX0 tyX0_ok nmX0 hown hK hP hD hS 0 rfl rfl 2 (by decide) lk17 (fun _ h9 => h9) rfl (by decide +kernel) rfl rfl (Nat.le_of_ble_eq_true rfl) dX0_take_75 (fun H locs hP hD hS => ?_)
    have hP : va_P D vwCl (dkW cA q0 q1 (rg, tt, t7, en, ki, os)) H := hP
    have hD : va_D A (dkW cA q0 q1 (rg, tt, t7, en, ki, os)) := hD
    refine lv_lload_n hx hb dX0_take_78 rfl (lv_at hl 1 rfl) ?_
    have hres : t6 = (dk_take (rg, tt, tk, en, ki, os)).1 := by
      subst et7 et6 et5 et3 et2 et1
      first | rfl | (simp only [dk_take, dk_sz, if_pos c4]; done) | (simp [dk_take, dk_sz, if_pos c4]; done)
    have hre2 : (rg, tt, t7, en, ki, os) = (dk_take (rg, tt, tk, en, ki, os)).2 := by
      subst et7 et6 et5 et3 et2 et1
      first | rfl | (simp only [dk_take, dk_sz, if_pos c4]; done) | (simp [dk_take, dk_sz, if_pos c4]; done)
    exact W.lret (v := t6) hx hb hr (fun t ht hW => ⟨⟨t6, (rg, tt, t7, en, ki, os), rfl, ⟨hres, hre2⟩, by show va_P D vwCl _ t.heap; rw [ht]; exact hP⟩, hS.F ht⟩) hS.2.2 dX0_take_79
  · refine lv_lconst (v := 0) hx hb dX0_take_19 (by decide) ?_
    have hres : 0 = (dk_take (rg, tt, tk, en, ki, os)).1 := by
      subst et3 et2 et1
      first | rfl | (simp only [dk_take, dk_sz, if_neg c4]; done) | (simp [dk_take, dk_sz, if_neg c4]; done)
    have hre2 : (rg, tt, tk, en, ki, os) = (dk_take (rg, tt, tk, en, ki, os)).2 := by
      subst et3 et2 et1
      first | rfl | (simp only [dk_take, dk_sz, if_neg c4]; done) | (simp [dk_take, dk_sz, if_neg c4]; done)
    exact W.lret (v := 0) hx hb hr (fun t ht hW => ⟨⟨0, (rg, tt, tk, en, ki, os), rfl, ⟨hres, hre2⟩, by show va_P D vwCl _ t.heap; rw [ht]; exact hP⟩, hS.F ht⟩) hS.2.2 dX0_take_20
