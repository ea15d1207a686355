set_option maxHeartbeats 4000000 in
set_option maxRecDepth 100000 in
theorem cD_put (l : Launch) (D : va_G) (cA : ClassId) (q0 q1 : Nat) (rg : Nat → Int32) (tt tk en ki os : Int32) (x1 : Int32) : dkV l yX0_put wsX0_put ({ frames := 0, cells := 0, slots := 0, locals := 0 }) D cA q0 q1 (rg, tt, tk, en, ki, os) [.int x1] (dk_put (rg, tt, tk, en, ki, os) x1) := by
  refine kk_of (cc := cX0_put) (maxL := 3) (ret := none) (by decide) rfl (Nat.le_of_ble_eq_true rfl) ?_
  intro p e s m below meth c ls hx hb hr hts hown hlocks hml hnm hP hK hD hl
  have hown : s.vm.findClass RX0 = some m.cls := hown
  have hl : lv_has ls 3 [(0, .ref q0), (1, .int x1)] := hl
  have hin : ∀ w ∈ wsX00, w ∈ wsX0_put := by decide +kernel
  have lk13 := hts (.fieldLink RX0 13 "EventLineDesk" "total" "I") (by decide +kernel)
  have lk9 := hts (.fieldLink RX0 9 "EventLineDesk" "ring" "[B") (by decide +kernel)
  generalize hAe : kk_A (dkW cA q0 q1 (rg, tt, tk, en, ki, os)) = A at hD ⊢
  have hS : va_S A s.heap s.heap [] := va_S.rf
  refine lv_aload_n hx hb dX0_put_0 rfl (lv_at hl 0 rfl) ?_
  refine va_get (D := D) (ci := 0) (v := .int tt) (C := RX0) (T := TX0) (N := 6) hx hb hts hin hown hK hP 0 rfl rfl 1 (by decide) lk13 (fun _ h9 => h9) rfl dX0_put_1 ?_
  refine lv_sipush (v := 4095) hx hb dX0_put_4 (by decide) ?_
  refine lv_iand hx hb dX0_put_7 ?_
  refine lv_topi (fun t1 et1 => ?_)
  refine lv_istore_n (lv' := [(2, .int t1), (0, .ref q0), (1, .int x1)]) hx hb dX0_put_8 rfl hl (by decide) rfl (fun ls hl => ?_)
  refine lv_iload_n hx hb dX0_put_9 rfl (lv_at hl 0 rfl) ?_
  refine lv_aload_n hx hb dX0_put_10 rfl (lv_at hl 1 rfl) ?_
  refine va_get (D := D) (ci := 0) (v := .ref q1) (C := RX0) (T := TX0) (N := 6) hx hb hts hin hown hK hP 0 rfl rfl 0 (by decide) lk9 (fun _ h9 => h9) rfl dX0_put_11 ?_
  refine va_alen (v := 4096) hx hb hK hP 1 0 rfl rfl (show Int32.ofNat 4096 = 4096 from by decide) dX0_put_14 ?_
  refine lv_icmp_ge (tgt := 26) hx hb dX0_put_15 (by decide) (fun c2 => ?_) (fun c2 => ?_)
  · exact absurd c2 (by rw [et1]; exact dk_mlt _)
  · refine lv_aload_n hx hb dX0_put_18 rfl (lv_at hl 1 rfl) ?_
    refine va_get (D := D) (ci := 0) (v := .ref q1) (C := RX0) (T := TX0) (N := 6) hx hb hts hin hown hK hP 0 rfl rfl 0 (by decide) lk9 (fun _ h9 => h9) rfl dX0_put_19 ?_
    refine lv_iload_n hx hb dX0_put_22 rfl (lv_at hl 0 rfl) ?_
    refine lv_iload_n hx hb dX0_put_23 rfl (lv_at hl 2 rfl) ?_
    refine lv_i2b hx hb dX0_put_24 rfl ?_
    refine lv_topi (fun t3 et3 => ?_)
    refine va_bast hx hb hK hP hD hS 1 0 rfl rfl (by rw [et1]; exact dk_mask _) dX0_put_25 (fun H locs hP hD hS => ?_)
    obtain ⟨g4, eg4⟩ : ∃ y : Nat → Int32, y = upd rg t1.toNatClampNeg (vp_nar .byte t3) := ⟨_, rfl⟩
    have hP : va_P D vwCl (dkW cA q0 q1 (g4, tt, tk, en, ki, os)) H := by rw [eg4]; exact hP
    have hD : va_D A (dkW cA q0 q1 (g4, tt, tk, en, ki, os)) := kk_D_same hD rfl
    refine lv_aload_n hx hb dX0_put_26 rfl (lv_at hl 1 rfl) ?_
    refine lv_dup hx hb dX0_put_27 rfl ?_
    refine va_get (D := D) (ci := 0) (v := .int tt) (C := RX0) (T := TX0) (N := 6) hx hb hts hin hown hK hP 0 rfl rfl 1 (by decide) lk13 (fun _ h9 => h9) rfl dX0_put_28 ?_
    refine lv_iconst (v := 1) hx hb dX0_put_31 (by decide) ?_
    refine lv_iadd hx hb dX0_put_32 ?_
    refine lv_topi (fun t5 et5 => ?_)
    refine va_put (D := D) (ci := 0) (v := .int t5) (ty := .int) (C := RX0) (T := TX0) (N := 6) hx hb hts hin tyX0 tyX0_ok nmX0 hown hK hP hD hS 0 rfl rfl 1 (by decide) lk13 (fun _ h9 => h9) rfl (by decide +kernel) rfl rfl (Nat.le_of_ble_eq_true rfl) dX0_put_33 (fun H locs hP hD hS => ?_)
    have hP : va_P D vwCl (dkW cA q0 q1 (g4, t5, tk, en, ki, os)) H := hP
    have hD : va_D A (dkW cA q0 q1 (g4, t5, tk, en, ki, os)) := hD
    have hres : (g4, t5, tk, en, ki, os) = dk_put (rg, tt, tk, en, ki, os) x1 := by
      subst et5 eg4 et3 et1
      first | rfl | (simp only [dk_put, pk_vb, if_neg c2]; done) | (simp [dk_put, pk_vb, if_neg c2]; done)
    exact W.vret hx hb hr (fun t ht hW => ⟨⟨(g4, t5, tk, en, ki, os), rfl, hres, by show va_P D vwCl _ t.heap; rw [ht]; exact hP⟩, hS.F ht⟩) hS.2.2 dX0_put_36
set_option maxHeartbeats 4000000 in
set_option maxRecDepth 100000 in
theorem cD_putTail (l : Launch) (D : va_G) (cA : ClassId) (q0 q1 : Nat) (rg : Nat → Int32) (tt tk en ki os : Int32) (x1 : Int32) : dkV l yX0_putTail wsX0_putTail ({ frames := 1, cells := 0, slots := 0, locals := 22 }) D cA q0 q1 (rg, tt, tk, en, ki, os) [.int x1] (dk_tail (rg, tt, tk, en, ki, os) x1) := by
  refine kk_of (cc := cX0_putTail) (maxL := 2) (ret := none) (by decide) rfl (Nat.le_of_ble_eq_true rfl) ?_
  intro p e s m below meth c ls hx hb hr hts hown hlocks hml hnm hP hK hD hl
  have hown : s.vm.findClass RX0 = some m.cls := hown
  have hl : lv_has ls 2 [(0, .ref q0), (1, .int x1)] := hl
  have hin : ∀ w ∈ wsX00, w ∈ wsX0_putTail := by decide +kernel
  generalize hAe : kk_A (dkW cA q0 q1 (rg, tt, tk, en, ki, os)) = A at hD ⊢
  have hS : va_S A s.heap s.heap [] := va_S.rf
  refine lv_aload_n hx hb dX0_putTail_0 rfl (lv_at hl 0 rfl) ?_
  refine lv_sipush (v := 128) hx hb dX0_putTail_1 (by decide) ?_
  refine lv_iload_n hx hb dX0_putTail_4 rfl (lv_at hl 1 rfl) ?_
  refine lv_bipush (v := 63) hx hb dX0_putTail_5 (by decide) ?_
  refine lv_iand hx hb dX0_putTail_7 ?_
  refine lv_topi (fun t1 et1 => ?_)
  refine lv_ior hx hb dX0_putTail_8 ?_
  refine lv_topi (fun t2 et2 => ?_)
  refine kk_mutV (cs := dkW cA q0 q1) (ci := 0) (q0 := 0) (rest := []) ⟨hx, hb, hml, hown, hts⟩ (cD_put l D cA q0 q1 rg tt tk en ki os t2) (cwV 1 hts gX0_putTail_X0_put rfl rfl rfl (by decide +kernel) ⟨Nat.le_of_ble_eq_true rfl, Nat.le_of_ble_eq_true rfl⟩) hK hP hD hS rfl rfl rfl hl.1 rfl (Nat.le_of_ble_eq_true rfl) dX0_putTail_9 ⟨Nat.zero_le _, Nat.zero_le _⟩ (fun u3 H locs hu3 hP hS hzu3 hku3 => ?_)
  obtain ⟨rg3, tt3, tk3, en3, ki3, os3⟩ := u3
  have eu3 : (rg3, tt3, tk3, en3, ki3, os3) = dk_put (rg, tt, tk, en, ki, os) t2 := hu3
  have hD : va_D A (dkW cA q0 q1 (rg3, tt3, tk3, en3, ki3, os3)) := kk_D_same hD rfl
  have hres : (rg3, tt3, tk3, en3, ki3, os3) = dk_tail (rg, tt, tk, en, ki, os) x1 := by
    subst et2 et1
    first | rfl | (simp only [dk_tail, ← eu3]; done) | (simp [dk_tail, ← eu3]; done)
  exact W.vret hx hb hr (fun t ht hW => ⟨⟨(rg3, tt3, tk3, en3, ki3, os3), rfl, hres, by show va_P D vwCl _ t.heap; rw [ht]; exact hP⟩, hS.F ht⟩) hS.2.2 dX0_putTail_12
set_option maxHeartbeats 4000000 in
set_option maxRecDepth 100000 in
theorem cD_putUtf8 (l : Launch) (D : va_G) (cA : ClassId) (q0 q1 : Nat) (rg : Nat → Int32) (tt tk en ki os : Int32) (x1 : Int32) : dkV l yX0_putUtf8 wsX0_putUtf8 ({ frames := 2, cells := 0, slots := 0, locals := 43 }) D cA q0 q1 (rg, tt, tk, en, ki, os) [.int x1] (dk_utf (rg, tt, tk, en, ki, os) x1) := by
  refine kk_of (cc := cX0_putUtf8) (maxL := 2) (ret := none) (by decide) rfl (Nat.le_of_ble_eq_true rfl) ?_
  intro p e s m below meth c ls hx hb hr hts hown hlocks hml hnm hP hK hD hl
  have hown : s.vm.findClass RX0 = some m.cls := hown
  have hl : lv_has ls 2 [(0, .ref q0), (1, .int x1)] := hl
  have hin : ∀ w ∈ wsX00, w ∈ wsX0_putUtf8 := by decide +kernel
  generalize hAe : kk_A (dkW cA q0 q1 (rg, tt, tk, en, ki, os)) = A at hD ⊢
  have hS : va_S A s.heap s.heap [] := va_S.rf
  refine lv_iload_n hx hb dX0_putUtf8_0 rfl (lv_at hl 1 rfl) ?_
  refine lv_sipush (v := 128) hx hb dX0_putUtf8_1 (by decide) ?_
  refine lv_icmp_ge (tgt := 15) hx hb dX0_putUtf8_4 (by decide) (fun c1 => ?_) (fun c1 => ?_)
  · refine lv_iload_n hx hb dX0_putUtf8_15 rfl (lv_at hl 1 rfl) ?_
    refine lv_sipush (v := 2048) hx hb dX0_putUtf8_16 (by decide) ?_
    refine lv_icmp_ge (tgt := 42) hx hb dX0_putUtf8_19 (by decide) (fun c2 => ?_) (fun c2 => ?_)
    · refine lv_iload_n hx hb dX0_putUtf8_42 rfl (lv_at hl 1 rfl) ?_
      refine lv_ldc (v := 65536) hx hb hown (hts (.constant RX0 84 (65536)) (by decide +kernel)) dX0_putUtf8_43 ?_
      refine lv_icmp_ge (tgt := 76) hx hb dX0_putUtf8_45 (by decide) (fun c3 => ?_) (fun c3 => ?_)
      · refine lv_aload_n hx hb dX0_putUtf8_76 rfl (lv_at hl 0 rfl) ?_
        refine lv_sipush (v := 240) hx hb dX0_putUtf8_77 (by decide) ?_
        refine lv_iload_n hx hb dX0_putUtf8_80 rfl (lv_at hl 1 rfl) ?_
        refine lv_bipush (v := 18) hx hb dX0_putUtf8_81 (by decide) ?_
        refine lv_ishr hx hb dX0_putUtf8_83 ?_
        refine lv_topi (fun t4 et4 => ?_)
        refine lv_ior hx hb dX0_putUtf8_84 ?_
        refine lv_topi (fun t5 et5 => ?_)
        refine kk_mutV (cs := dkW cA q0 q1) (ci := 0) (q0 := 0) (rest := []) ⟨hx, hb, hml, hown, hts⟩ (cD_put l D cA q0 q1 rg tt tk en ki os t5) (cwV 1 hts gX0_putUtf8_X0_put rfl rfl rfl (by decide +kernel) ⟨Nat.le_of_ble_eq_true rfl, Nat.le_of_ble_eq_true rfl⟩) hK hP hD hS rfl rfl rfl hl.1 rfl (Nat.le_of_ble_eq_true rfl) dX0_putUtf8_85 ⟨Nat.zero_le _, Nat.zero_le _⟩ (fun u6 H locs hu6 hP hS hzu6 hku6 => ?_)
        obtain ⟨rg6, tt6, tk6, en6, ki6, os6⟩ := u6
        have eu6 : (rg6, tt6, tk6, en6, ki6, os6) = dk_put (rg, tt, tk, en, ki, os) t5 := hu6
        have hD : va_D A (dkW cA q0 q1 (rg6, tt6, tk6, en6, ki6, os6)) := kk_D_same hD rfl
        refine lv_aload_n hx hb dX0_putUtf8_88 rfl (lv_at hl 0 rfl) ?_
        refine lv_iload_n hx hb dX0_putUtf8_89 rfl (lv_at hl 1 rfl) ?_
        refine lv_bipush (v := 12) hx hb dX0_putUtf8_90 (by decide) ?_
        refine lv_ishr hx hb dX0_putUtf8_92 ?_
        refine lv_topi (fun t7 et7 => ?_)
        refine kk_mutV (cs := dkW cA q0 q1) (ci := 0) (q0 := 0) (rest := []) ⟨hx, hb, hml, hown, hts⟩ (cD_putTail l D cA q0 q1 rg6 tt6 tk6 en6 ki6 os6 t7) (cwV 1 hts gX0_putUtf8_X0_putTail rfl rfl rfl (by decide +kernel) ⟨Nat.le_of_ble_eq_true rfl, Nat.le_of_ble_eq_true rfl⟩) hK hP hD hS rfl rfl rfl hl.1 rfl (Nat.le_of_ble_eq_true rfl) dX0_putUtf8_93 ⟨Nat.zero_le _, Nat.zero_le _⟩ (fun u8 H locs hu8 hP hS hzu8 hku8 => ?_)
        obtain ⟨rg8, tt8, tk8, en8, ki8, os8⟩ := u8
        have eu8 : (rg8, tt8, tk8, en8, ki8, os8) = dk_tail (rg6, tt6, tk6, en6, ki6, os6) t7 := hu8
        have hD : va_D A (dkW cA q0 q1 (rg8, tt8, tk8, en8, ki8, os8)) := kk_D_same hD rfl
        refine lv_aload_n hx hb dX0_putUtf8_96 rfl (lv_at hl 0 rfl) ?_
        refine lv_iload_n hx hb dX0_putUtf8_97 rfl (lv_at hl 1 rfl) ?_
        refine lv_bipush (v := 6) hx hb dX0_putUtf8_98 (by decide) ?_
        refine lv_ishr hx hb dX0_putUtf8_100 ?_
        refine lv_topi (fun t9 et9 => ?_)
        refine kk_mutV (cs := dkW cA q0 q1) (ci := 0) (q0 := 0) (rest := []) ⟨hx, hb, hml, hown, hts⟩ (cD_putTail l D cA q0 q1 rg8 tt8 tk8 en8 ki8 os8 t9) (cwV 1 hts gX0_putUtf8_X0_putTail rfl rfl rfl (by decide +kernel) ⟨Nat.le_of_ble_eq_true rfl, Nat.le_of_ble_eq_true rfl⟩) hK hP hD hS rfl rfl rfl hl.1 rfl (Nat.le_of_ble_eq_true rfl) dX0_putUtf8_101 ⟨Nat.zero_le _, Nat.zero_le _⟩ (fun u10 H locs hu10 hP hS hzu10 hku10 => ?_)
        obtain ⟨rg10, tt10, tk10, en10, ki10, os10⟩ := u10
        have eu10 : (rg10, tt10, tk10, en10, ki10, os10) = dk_tail (rg8, tt8, tk8, en8, ki8, os8) t9 := hu10
        have hD : va_D A (dkW cA q0 q1 (rg10, tt10, tk10, en10, ki10, os10)) := kk_D_same hD rfl
        refine lv_aload_n hx hb dX0_putUtf8_104 rfl (lv_at hl 0 rfl) ?_
        refine lv_iload_n hx hb dX0_putUtf8_105 rfl (lv_at hl 1 rfl) ?_
        refine kk_mutV (cs := dkW cA q0 q1) (ci := 0) (q0 := 0) (rest := []) ⟨hx, hb, hml, hown, hts⟩ (cD_putTail l D cA q0 q1 rg10 tt10 tk10 en10 ki10 os10 x1) (cwV 1 hts gX0_putUtf8_X0_putTail rfl rfl rfl (by decide +kernel) ⟨Nat.le_of_ble_eq_true rfl, Nat.le_of_ble_eq_true rfl⟩) hK hP hD hS rfl rfl rfl hl.1 rfl (Nat.le_of_ble_eq_true rfl) dX0_putUtf8_106 ⟨Nat.zero_le _, Nat.zero_le _⟩ (fun u11 H locs hu11 hP hS hzu11 hku11 => ?_)
        obtain ⟨rg11, tt11, tk11, en11, ki11, os11⟩ := u11
        have eu11 : (rg11, tt11, tk11, en11, ki11, os11) = dk_tail (rg10, tt10, tk10, en10, ki10, os10) x1 := hu11
        have hD : va_D A (dkW cA q0 q1 (rg11, tt11, tk11, en11, ki11, os11)) := kk_D_same hD rfl
        have hres : (rg11, tt11, tk11, en11, ki11, os11) = dk_utf (rg, tt, tk, en, ki, os) x1 := by
          subst et9 et7 et5 et4
          first | rfl | (simp only [dk_utf, ← eu6, ← eu8, ← eu10, ← eu11, if_pos c1, if_pos c2, if_pos c3]; done) | (simp [dk_utf, ← eu6, ← eu8, ← eu10, ← eu11, if_pos c1, if_pos c2, if_pos c3]; done)
        exact W.vret hx hb hr (fun t ht hW => ⟨⟨(rg11, tt11, tk11, en11, ki11, os11), rfl, hres, by show va_P D vwCl _ t.heap; rw [ht]; exact hP⟩, hS.F ht⟩) hS.2.2 dX0_putUtf8_109
      · refine lv_aload_n hx hb dX0_putUtf8_48 rfl (lv_at hl 0 rfl) ?_
        refine lv_sipush (v := 224) hx hb dX0_putUtf8_49 (by decide) ?_
        refine lv_iload_n hx hb dX0_putUtf8_52 rfl (lv_at hl 1 rfl) ?_
        refine lv_bipush (v := 12) hx hb dX0_putUtf8_53 (by decide) ?_
        refine lv_ishr hx hb dX0_putUtf8_55 ?_
        refine lv_topi (fun t12 et12 => ?_)
        refine lv_ior hx hb dX0_putUtf8_56 ?_
        refine lv_topi (fun t13 et13 => ?_)
        refine kk_mutV (cs := dkW cA q0 q1) (ci := 0) (q0 := 0) (rest := []) ⟨hx, hb, hml, hown, hts⟩ (cD_put l D cA q0 q1 rg tt tk en ki os t13) (cwV 1 hts gX0_putUtf8_X0_put rfl rfl rfl (by decide +kernel) ⟨Nat.le_of_ble_eq_true rfl, Nat.le_of_ble_eq_true rfl⟩) hK hP hD hS rfl rfl rfl hl.1 rfl (Nat.le_of_ble_eq_true rfl) dX0_putUtf8_57 ⟨Nat.zero_le _, Nat.zero_le _⟩ (fun u14 H locs hu14 hP hS hzu14 hku14 => ?_)
        obtain ⟨rg14, tt14, tk14, en14, ki14, os14⟩ := u14
        have eu14 : (rg14, tt14, tk14, en14, ki14, os14) = dk_put (rg, tt, tk, en, ki, os) t13 := hu14
        have hD : va_D A (dkW cA q0 q1 (rg14, tt14, tk14, en14, ki14, os14)) := kk_D_same hD rfl
        refine lv_aload_n hx hb dX0_putUtf8_60 rfl (lv_at hl 0 rfl) ?_
        refine lv_iload_n hx hb dX0_putUtf8_61 rfl (lv_at hl 1 rfl) ?_
        refine lv_bipush (v := 6) hx hb dX0_putUtf8_62 (by decide) ?_
        refine lv_ishr hx hb dX0_putUtf8_64 ?_
        refine lv_topi (fun t15 et15 => ?_)
        refine kk_mutV (cs := dkW cA q0 q1) (ci := 0) (q0 := 0) (rest := []) ⟨hx, hb, hml, hown, hts⟩ (cD_putTail l D cA q0 q1 rg14 tt14 tk14 en14 ki14 os14 t15) (cwV 1 hts gX0_putUtf8_X0_putTail rfl rfl rfl (by decide +kernel) ⟨Nat.le_of_ble_eq_true rfl, Nat.le_of_ble_eq_true rfl⟩) hK hP hD hS rfl rfl rfl hl.1 rfl (Nat.le_of_ble_eq_true rfl) dX0_putUtf8_65 ⟨Nat.zero_le _, Nat.zero_le _⟩ (fun u16 H locs hu16 hP hS hzu16 hku16 => ?_)
        obtain ⟨rg16, tt16, tk16, en16, ki16, os16⟩ := u16
        have eu16 : (rg16, tt16, tk16, en16, ki16, os16) = dk_tail (rg14, tt14, tk14, en14, ki14, os14) t15 := hu16
        have hD : va_D A (dkW cA q0 q1 (rg16, tt16, tk16, en16, ki16, os16)) := kk_D_same hD rfl
        refine lv_aload_n hx hb dX0_putUtf8_68 rfl (lv_at hl 0 rfl) ?_
        refine lv_iload_n hx hb dX0_putUtf8_69 rfl (lv_at hl 1 rfl) ?_
        refine kk_mutV (cs := dkW cA q0 q1) (ci := 0) (q0 := 0) (rest := []) ⟨hx, hb, hml, hown, hts⟩ (cD_putTail l D cA q0 q1 rg16 tt16 tk16 en16 ki16 os16 x1) (cwV 1 hts gX0_putUtf8_X0_putTail rfl rfl rfl (by decide +kernel) ⟨Nat.le_of_ble_eq_true rfl, Nat.le_of_ble_eq_true rfl⟩) hK hP hD hS rfl rfl rfl hl.1 rfl (Nat.le_of_ble_eq_true rfl) dX0_putUtf8_70 ⟨Nat.zero_le _, Nat.zero_le _⟩ (fun u17 H locs hu17 hP hS hzu17 hku17 => ?_)
        obtain ⟨rg17, tt17, tk17, en17, ki17, os17⟩ := u17
        have eu17 : (rg17, tt17, tk17, en17, ki17, os17) = dk_tail (rg16, tt16, tk16, en16, ki16, os16) x1 := hu17
        have hD : va_D A (dkW cA q0 q1 (rg17, tt17, tk17, en17, ki17, os17)) := kk_D_same hD rfl
        refine lv_goto (tgt := 109) hx hb dX0_putUtf8_73 (by decide) ?_
        have hres : (rg17, tt17, tk17, en17, ki17, os17) = dk_utf (rg, tt, tk, en, ki, os) x1 := by
          subst et15 et13 et12
          first | rfl | (simp only [dk_utf, ← eu14, ← eu16, ← eu17, if_pos c1, if_pos c2, if_neg c3]; done) | (simp [dk_utf, ← eu14, ← eu16, ← eu17, if_pos c1, if_pos c2, if_neg c3]; done)
        exact W.vret hx hb hr (fun t ht hW => ⟨⟨(rg17, tt17, tk17, en17, ki17, os17), rfl, hres, by show va_P D vwCl _ t.heap; rw [ht]; exact hP⟩, hS.F ht⟩) hS.2.2 dX0_putUtf8_109
    · refine lv_aload_n hx hb dX0_putUtf8_22 rfl (lv_at hl 0 rfl) ?_
      refine lv_sipush (v := 192) hx hb dX0_putUtf8_23 (by decide) ?_
      refine lv_iload_n hx hb dX0_putUtf8_26 rfl (lv_at hl 1 rfl) ?_
      refine lv_bipush (v := 6) hx hb dX0_putUtf8_27 (by decide) ?_
      refine lv_ishr hx hb dX0_putUtf8_29 ?_
      refine lv_topi (fun t18 et18 => ?_)
      refine lv_ior hx hb dX0_putUtf8_30 ?_
      refine lv_topi (fun t19 et19 => ?_)
      refine kk_mutV (cs := dkW cA q0 q1) (ci := 0) (q0 := 0) (rest := []) ⟨hx, hb, hml, hown, hts⟩ (cD_put l D cA q0 q1 rg tt tk en ki os t19) (cwV 1 hts gX0_putUtf8_X0_put rfl rfl rfl (by decide +kernel) ⟨Nat.le_of_ble_eq_true rfl, Nat.le_of_ble_eq_true rfl⟩) hK hP hD hS rfl rfl rfl hl.1 rfl (Nat.le_of_ble_eq_true rfl) dX0_putUtf8_31 ⟨Nat.zero_le _, Nat.zero_le _⟩ (fun u20 H locs hu20 hP hS hzu20 hku20 => ?_)
      obtain ⟨rg20, tt20, tk20, en20, ki20, os20⟩ := u20
      have eu20 : (rg20, tt20, tk20, en20, ki20, os20) = dk_put (rg, tt, tk, en, ki, os) t19 := hu20
      have hD : va_D A (dkW cA q0 q1 (rg20, tt20, tk20, en20, ki20, os20)) := kk_D_same hD rfl
      refine lv_aload_n hx hb dX0_putUtf8_34 rfl (lv_at hl 0 rfl) ?_
      refine lv_iload_n hx hb dX0_putUtf8_35 rfl (lv_at hl 1 rfl) ?_
      refine kk_mutV (cs := dkW cA q0 q1) (ci := 0) (q0 := 0) (rest := []) ⟨hx, hb, hml, hown, hts⟩ (cD_putTail l D cA q0 q1 rg20 tt20 tk20 en20 ki20 os20 x1) (cwV 1 hts gX0_putUtf8_X0_putTail rfl rfl rfl (by decide +kernel) ⟨Nat.le_of_ble_eq_true rfl, Nat.le_of_ble_eq_true rfl⟩) hK hP hD hS rfl rfl rfl hl.1 rfl (Nat.le_of_ble_eq_true rfl) dX0_putUtf8_36 ⟨Nat.zero_le _, Nat.zero_le _⟩ (fun u21 H locs hu21 hP hS hzu21 hku21 => ?_)
      obtain ⟨rg21, tt21, tk21, en21, ki21, os21⟩ := u21
      have eu21 : (rg21, tt21, tk21, en21, ki21, os21) = dk_tail (rg20, tt20, tk20, en20, ki20, os20) x1 := hu21
      have hD : va_D A (dkW cA q0 q1 (rg21, tt21, tk21, en21, ki21, os21)) := kk_D_same hD rfl
      refine lv_goto (tgt := 109) hx hb dX0_putUtf8_39 (by decide) ?_
      have hres : (rg21, tt21, tk21, en21, ki21, os21) = dk_utf (rg, tt, tk, en, ki, os) x1 := by
        subst et19 et18
        first | rfl | (simp only [dk_utf, ← eu20, ← eu21, if_pos c1, if_neg c2]; done) | (simp [dk_utf, ← eu20, ← eu21, if_pos c1, if_neg c2]; done)
      exact W.vret hx hb hr (fun t ht hW => ⟨⟨(rg21, tt21, tk21, en21, ki21, os21), rfl, hres, by show va_P D vwCl _ t.heap; rw [ht]; exact hP⟩, hS.F ht⟩) hS.2.2 dX0_putUtf8_109
  · refine lv_aload_n hx hb dX0_putUtf8_7 rfl (lv_at hl 0 rfl) ?_
    refine lv_iload_n hx hb dX0_putUtf8_8 rfl (lv_at hl 1 rfl) ?_
    refine kk_mutV (cs := dkW cA q0 q1) (ci := 0) (q0 := 0) (rest := []) ⟨hx, hb, hml, hown, hts⟩ (cD_put l D cA q0 q1 rg tt tk en ki os x1) (cwV 1 hts gX0_putUtf8_X0_put rfl rfl rfl (by decide +kernel) ⟨Nat.le_of_ble_eq_true rfl, Nat.le_of_ble_eq_true rfl⟩) hK hP hD hS rfl rfl rfl hl.1 rfl (Nat.le_of_ble_eq_true rfl) dX0_putUtf8_9 ⟨Nat.zero_le _, Nat.zero_le _⟩ (fun u22 H locs hu22 hP hS hzu22 hku22 => ?_)
    obtain ⟨rg22, tt22, tk22, en22, ki22, os22⟩ := u22
    have eu22 : (rg22, tt22, tk22, en22, ki22, os22) = dk_put (rg, tt, tk, en, ki, os) x1 := hu22
    have hD : va_D A (dkW cA q0 q1 (rg22, tt22, tk22, en22, ki22, os22)) := kk_D_same hD rfl
    refine lv_goto (tgt := 109) hx hb dX0_putUtf8_12 (by decide) ?_
    have hres : (rg22, tt22, tk22, en22, ki22, os22) = dk_utf (rg, tt, tk, en, ki, os) x1 := by
      first | rfl | (simp only [dk_utf, ← eu22, if_neg c1]; done) | (simp [dk_utf, ← eu22, if_neg c1]; done)
    exact W.vret hx hb hr (fun t ht hW => ⟨⟨(rg22, tt22, tk22, en22, ki22, os22), rfl, hres, by show va_P D vwCl _ t.heap; rw [ht]; exact hP⟩, hS.F ht⟩) hS.2.2 dX0_putUtf8_109
set_option maxHeartbeats 4000000 in
set_option maxRecDepth 100000 in
theorem cD_putCharacter (l : Launch) (D : va_G) (cA : ClassId) (q0 q1 : Nat) (rg : Nat → Int32) (tt tk en ki os : Int32) (x1 : Int32) : dkV l yX0_putCharacter wsX0_putCharacter ({ frames := 3, cells := 0, slots := 0, locals := 64 }) D cA q0 q1 (rg, tt, tk, en, ki, os) [.int x1] (dk_putC (rg, tt, tk, en, ki, os) x1) := by
  refine kk_of (cc := cX0_putCharacter) (maxL := 3) (ret := none) (by decide) rfl (Nat.le_of_ble_eq_true rfl) ?_
  intro p e s m below meth c ls hx hb hr hts hown hlocks hml hnm hP hK hD hl
  have hown : s.vm.findClass RX0 = some m.cls := hown
  have hl : lv_has ls 3 [(0, .ref q0), (1, .int x1)] := hl
  have hin : ∀ w ∈ wsX00, w ∈ wsX0_putCharacter := by decide +kernel
  generalize hAe : kk_A (dkW cA q0 q1 (rg, tt, tk, en, ki, os)) = A at hD ⊢
  have hS : va_S A s.heap s.heap [] := va_S.rf
  refine lv_iload_n hx hb dX0_putCharacter_0 rfl (lv_at hl 1 rfl) ?_
  refine kk_readS (rest := []) ⟨hx, hb, hml, hown, hts⟩ (cD_escapedFormOf l x1) (cwS 1 hts gX0_putCharacter_X0_escapedFormOf rfl rfl rfl (by decide +kernel) ⟨Nat.le_of_ble_eq_true rfl, Nat.le_of_ble_eq_true rfl⟩) rfl hl.1 rfl (Nat.le_of_ble_eq_true rfl) dX0_putCharacter_1 ⟨Nat.zero_le _, Nat.zero_le _⟩ ?_
  refine lv_topi (fun t1 et1 => ?_)
  refine lv_istore_n (lv' := [(2, .int t1), (0, .ref q0), (1, .int x1)]) hx hb dX0_putCharacter_4 rfl hl (by decide) rfl (fun ls hl => ?_)
  refine lv_iload_n hx hb dX0_putCharacter_5 rfl (lv_at hl 0 rfl) ?_
  refine lv_if_eq (tgt := 23) hx hb dX0_putCharacter_6 (by decide) (fun c2 => ?_) (fun c2 => ?_)
  · refine lv_aload_n hx hb dX0_putCharacter_23 rfl (lv_at hl 1 rfl) ?_
    refine lv_iload_n hx hb dX0_putCharacter_24 rfl (lv_at hl 2 rfl) ?_
    refine kk_mutV (cs := dkW cA q0 q1) (ci := 0) (q0 := 0) (rest := []) ⟨hx, hb, hml, hown, hts⟩ (cD_putUtf8 l D cA q0 q1 rg tt tk en ki os x1) (cwV 1 hts gX0_putCharacter_X0_putUtf8 rfl rfl rfl (by decide +kernel) ⟨Nat.le_of_ble_eq_true rfl, Nat.le_of_ble_eq_true rfl⟩) hK hP hD hS rfl rfl rfl hl.1 rfl (Nat.le_of_ble_eq_true rfl) dX0_putCharacter_25 ⟨Nat.zero_le _, Nat.zero_le _⟩ (fun u3 H locs hu3 hP hS hzu3 hku3 => ?_)
    obtain ⟨rg3, tt3, tk3, en3, ki3, os3⟩ := u3
    have eu3 : (rg3, tt3, tk3, en3, ki3, os3) = dk_utf (rg, tt, tk, en, ki, os) x1 := hu3
    have hD : va_D A (dkW cA q0 q1 (rg3, tt3, tk3, en3, ki3, os3)) := kk_D_same hD rfl
    have hres : (rg3, tt3, tk3, en3, ki3, os3) = dk_putC (rg, tt, tk, en, ki, os) x1 := by
      subst et1
      first | rfl | (simp only [dk_putC, ← eu3, if_pos c2]; done) | (simp [dk_putC, ← eu3, if_pos c2]; done)
    exact W.vret hx hb hr (fun t ht hW => ⟨⟨(rg3, tt3, tk3, en3, ki3, os3), rfl, hres, by show va_P D vwCl _ t.heap; rw [ht]; exact hP⟩, hS.F ht⟩) hS.2.2 dX0_putCharacter_28
  · refine lv_aload_n hx hb dX0_putCharacter_9 rfl (lv_at hl 1 rfl) ?_
    refine lv_bipush (v := 92) hx hb dX0_putCharacter_10 (by decide) ?_
    refine kk_mutV (cs := dkW cA q0 q1) (ci := 0) (q0 := 0) (rest := []) ⟨hx, hb, hml, hown, hts⟩ (cD_put l D cA q0 q1 rg tt tk en ki os 92) (cwV 1 hts gX0_putCharacter_X0_put rfl rfl rfl (by decide +kernel) ⟨Nat.le_of_ble_eq_true rfl, Nat.le_of_ble_eq_true rfl⟩) hK hP hD hS rfl rfl rfl hl.1 rfl (Nat.le_of_ble_eq_true rfl) dX0_putCharacter_12 ⟨Nat.zero_le _, Nat.zero_le _⟩ (fun u4 H locs hu4 hP hS hzu4 hku4 => ?_)
    obtain ⟨rg4, tt4, tk4, en4, ki4, os4⟩ := u4
    have eu4 : (rg4, tt4, tk4, en4, ki4, os4) = dk_put (rg, tt, tk, en, ki, os) 92 := hu4
    have hD : va_D A (dkW cA q0 q1 (rg4, tt4, tk4, en4, ki4, os4)) := kk_D_same hD rfl
    refine lv_aload_n hx hb dX0_putCharacter_15 rfl (lv_at hl 1 rfl) ?_
    refine lv_iload_n hx hb dX0_putCharacter_16 rfl (lv_at hl 0 rfl) ?_
    refine kk_mutV (cs := dkW cA q0 q1) (ci := 0) (q0 := 0) (rest := []) ⟨hx, hb, hml, hown, hts⟩ (cD_put l D cA q0 q1 rg4 tt4 tk4 en4 ki4 os4 t1) (cwV 1 hts gX0_putCharacter_X0_put rfl rfl rfl (by decide +kernel) ⟨Nat.le_of_ble_eq_true rfl, Nat.le_of_ble_eq_true rfl⟩) hK hP hD hS rfl rfl rfl hl.1 rfl (Nat.le_of_ble_eq_true rfl) dX0_putCharacter_17 ⟨Nat.zero_le _, Nat.zero_le _⟩ (fun u5 H locs hu5 hP hS hzu5 hku5 => ?_)
    obtain ⟨rg5, tt5, tk5, en5, ki5, os5⟩ := u5
    have eu5 : (rg5, tt5, tk5, en5, ki5, os5) = dk_put (rg4, tt4, tk4, en4, ki4, os4) t1 := hu5
    have hD : va_D A (dkW cA q0 q1 (rg5, tt5, tk5, en5, ki5, os5)) := kk_D_same hD rfl
    refine lv_goto (tgt := 28) hx hb dX0_putCharacter_20 (by decide) ?_
    have hres : (rg5, tt5, tk5, en5, ki5, os5) = dk_putC (rg, tt, tk, en, ki, os) x1 := by
      subst et1
      first | rfl | (simp only [dk_putC, ← eu4, ← eu5, if_neg c2]; done) | (simp [dk_putC, ← eu4, ← eu5, if_neg c2]; done)
    exact W.vret hx hb hr (fun t ht hW => ⟨⟨(rg5, tt5, tk5, en5, ki5, os5), rfl, hres, by show va_P D vwCl _ t.heap; rw [ht]; exact hP⟩, hS.F ht⟩) hS.2.2 dX0_putCharacter_28
set_option maxHeartbeats 4000000 in
set_option maxRecDepth 100000 in
theorem cD_endLine (l : Launch) (D : va_G) (cA : ClassId) (q0 q1 : Nat) (rg : Nat → Int32) (tt tk en ki os : Int32)  : dkV l yX0_endLine wsX0_endLine ({ frames := 1, cells := 0, slots := 0, locals := 22 }) D cA q0 q1 (rg, tt, tk, en, ki, os) [] (dk_endL (rg, tt, tk, en, ki, os)) := by
  refine kk_of (cc := cX0_endLine) (maxL := 1) (ret := none) (by decide) rfl (Nat.le_of_ble_eq_true rfl) ?_
  intro p e s m below meth c ls hx hb hr hts hown hlocks hml hnm hP hK hD hl
  have hown : s.vm.findClass RX0 = some m.cls := hown
  have hl : lv_has ls 1 [(0, .ref q0)] := hl
  have hin : ∀ w ∈ wsX00, w ∈ wsX0_endLine := by decide +kernel
  have lk20 := hts (.fieldLink RX0 20 "EventLineDesk" "endedLines" "I") (by decide +kernel)
  have lk23 := hts (.fieldLink RX0 23 "EventLineDesk" "openKind" "I") (by decide +kernel)
  generalize hAe : kk_A (dkW cA q0 q1 (rg, tt, tk, en, ki, os)) = A at hD ⊢
  have hS : va_S A s.heap s.heap [] := va_S.rf
  refine lv_aload_n hx hb dX0_endLine_0 rfl (lv_at hl 0 rfl) ?_
  refine lv_bipush (v := 10) hx hb dX0_endLine_1 (by decide) ?_
  refine kk_mutV (cs := dkW cA q0 q1) (ci := 0) (q0 := 0) (rest := []) ⟨hx, hb, hml, hown, hts⟩ (cD_put l D cA q0 q1 rg tt tk en ki os 10) (cwV 1 hts gX0_endLine_X0_put rfl rfl rfl (by decide +kernel) ⟨Nat.le_of_ble_eq_true rfl, Nat.le_of_ble_eq_true rfl⟩) hK hP hD hS rfl rfl rfl hl.1 rfl (Nat.le_of_ble_eq_true rfl) dX0_endLine_3 ⟨Nat.zero_le _, Nat.zero_le _⟩ (fun u1 H locs hu1 hP hS hzu1 hku1 => ?_)
  obtain ⟨rg1, tt1, tk1, en1, ki1, os1⟩ := u1
  have eu1 : (rg1, tt1, tk1, en1, ki1, os1) = dk_put (rg, tt, tk, en, ki, os) 10 := hu1
  have hD : va_D A (dkW cA q0 q1 (rg1, tt1, tk1, en1, ki1, os1)) := kk_D_same hD rfl
  refine lv_aload_n hx hb dX0_endLine_6 rfl (lv_at hl 0 rfl) ?_
  refine lv_dup hx hb dX0_endLine_7 rfl ?_
  refine va_get (D := D) (ci := 0) (v := .int en1) (C := RX0) (T := TX0) (N := 6) hx hb hts hin hown hK hP 0 rfl rfl 3 (by decide) lk20 (fun _ h9 => h9) rfl dX0_endLine_8 ?_
  refine lv_iconst (v := 1) hx hb dX0_endLine_11 (by decide) ?_
  refine lv_iadd hx hb dX0_endLine_12 ?_
  refine lv_topi (fun t2 et2 => ?_)
  refine va_put (D := D) (ci := 0) (v := .int t2) (ty := .int) (C := RX0) (T := TX0) (N := 6) hx hb hts hin tyX0 tyX0_ok nmX0 hown hK hP hD hS 0 rfl rfl 3 (by decide) lk20 (fun _ h9 => h9) rfl (by decide +kernel) rfl rfl (Nat.le_of_ble_eq_true rfl) dX0_endLine_13 (fun H locs hP hD hS => ?_)
  have hP : va_P D vwCl (dkW cA q0 q1 (rg1, tt1, tk1, t2, ki1, os1)) H := hP
  have hD : va_D A (dkW cA q0 q1 (rg1, tt1, tk1, t2, ki1, os1)) := hD
  refine lv_aload_n hx hb dX0_endLine_16 rfl (lv_at hl 0 rfl) ?_
  refine lv_iconst (v := (-1)) hx hb dX0_endLine_17 (by decide) ?_
  refine va_put (D := D) (ci := 0) (v := .int (-1)) (ty := .int) (C := RX0) (T := TX0) (N := 6) hx hb hts hin tyX0 tyX0_ok nmX0 hown hK hP hD hS 0 rfl rfl 4 (by decide) lk23 (fun _ h9 => h9) rfl (by decide +kernel) rfl rfl (Nat.le_of_ble_eq_true rfl) dX0_endLine_18 (fun H locs hP hD hS => ?_)
  have hP : va_P D vwCl (dkW cA q0 q1 (rg1, tt1, tk1, t2, (-1), os1)) H := hP
  have hD : va_D A (dkW cA q0 q1 (rg1, tt1, tk1, t2, (-1), os1)) := hD
  have hres : (rg1, tt1, tk1, t2, (-1), os1) = dk_endL (rg, tt, tk, en, ki, os) := by
    subst et2
    first | rfl | (simp only [dk_endL, dk_e2, ← eu1]; done) | (simp [dk_endL, dk_e2, ← eu1]; done)
  exact W.vret hx hb hr (fun t ht hW => ⟨⟨(rg1, tt1, tk1, t2, (-1), os1), rfl, hres, by show va_P D vwCl _ t.heap; rw [ht]; exact hP⟩, hS.F ht⟩) hS.2.2 dX0_endLine_21
set_option maxHeartbeats 4000000 in
set_option maxRecDepth 100000 in
theorem cD_openLine (l : Launch) (D : va_G) (cA : ClassId) (q0 q1 : Nat) (rg : Nat → Int32) (tt tk en ki os : Int32) (x1 : Int32) : dkV l yX0_openLine wsX0_openLine ({ frames := 2, cells := 0, slots := 0, locals := 42 }) D cA q0 q1 (rg, tt, tk, en, ki, os) [.int x1] (dk_open (rg, tt, tk, en, ki, os) x1) := by
  refine kk_of (cc := cX0_openLine) (maxL := 2) (ret := none) (by decide) rfl (Nat.le_of_ble_eq_true rfl) ?_
  intro p e s m below meth c ls hx hb hr hts hown hlocks hml hnm hP hK hD hl
  have hown : s.vm.findClass RX0 = some m.cls := hown
  have hl : lv_has ls 2 [(0, .ref q0), (1, .int x1)] := hl
  have hin : ∀ w ∈ wsX00, w ∈ wsX0_openLine := by decide +kernel
  have lk23 := hts (.fieldLink RX0 23 "EventLineDesk" "openKind" "I") (by decide +kernel)
  have lk13 := hts (.fieldLink RX0 13 "EventLineDesk" "total" "I") (by decide +kernel)
  have lk26 := hts (.fieldLink RX0 26 "EventLineDesk" "openStart" "I") (by decide +kernel)
  generalize hAe : kk_A (dkW cA q0 q1 (rg, tt, tk, en, ki, os)) = A at hD ⊢
  have hS : va_S A s.heap s.heap [] := va_S.rf
  refine lv_aload_n hx hb dX0_openLine_0 rfl (lv_at hl 0 rfl) ?_
  refine va_get (D := D) (ci := 0) (v := .int ki) (C := RX0) (T := TX0) (N := 6) hx hb hts hin hown hK hP 0 rfl rfl 4 (by decide) lk23 (fun _ h9 => h9) rfl dX0_openLine_1 ?_
  refine lv_iconst (v := (-1)) hx hb dX0_openLine_4 (by decide) ?_
  refine lv_icmp_eq (tgt := 12) hx hb dX0_openLine_5 (by decide) (fun c1 => ?_) (fun c1 => ?_)
  · refine lv_aload_n hx hb dX0_openLine_12 rfl (lv_at hl 0 rfl) ?_
    refine lv_iload_n hx hb dX0_openLine_13 rfl (lv_at hl 1 rfl) ?_
    refine va_put (D := D) (ci := 0) (v := .int x1) (ty := .int) (C := RX0) (T := TX0) (N := 6) hx hb hts hin tyX0 tyX0_ok nmX0 hown hK hP hD hS 0 rfl rfl 4 (by decide) lk23 (fun _ h9 => h9) rfl (by decide +kernel) rfl rfl (Nat.le_of_ble_eq_true rfl) dX0_openLine_14 (fun H locs hP hD hS => ?_)
    have hP : va_P D vwCl (dkW cA q0 q1 (rg, tt, tk, en, x1, os)) H := hP
    have hD : va_D A (dkW cA q0 q1 (rg, tt, tk, en, x1, os)) := hD
    refine lv_aload_n hx hb dX0_openLine_17 rfl (lv_at hl 0 rfl) ?_
    refine lv_aload_n hx hb dX0_openLine_18 rfl (lv_at hl 0 rfl) ?_
    refine va_get (D := D) (ci := 0) (v := .int tt) (C := RX0) (T := TX0) (N := 6) hx hb hts hin hown hK hP 0 rfl rfl 1 (by decide) lk13 (fun _ h9 => h9) rfl dX0_openLine_19 ?_
    refine va_put (D := D) (ci := 0) (v := .int tt) (ty := .int) (C := RX0) (T := TX0) (N := 6) hx hb hts hin tyX0 tyX0_ok nmX0 hown hK hP hD hS 0 rfl rfl 5 (by decide) lk26 (fun _ h9 => h9) rfl (by decide +kernel) rfl rfl (Nat.le_of_ble_eq_true rfl) dX0_openLine_22 (fun H locs hP hD hS => ?_)
    have hP : va_P D vwCl (dkW cA q0 q1 (rg, tt, tk, en, x1, tt)) H := hP
    have hD : va_D A (dkW cA q0 q1 (rg, tt, tk, en, x1, tt)) := hD
    refine lv_aload_n hx hb dX0_openLine_25 rfl (lv_at hl 0 rfl) ?_
    refine lv_iload_n hx hb dX0_openLine_26 rfl (lv_at hl 1 rfl) ?_
    refine kk_readS (rest := [.ref q0]) ⟨hx, hb, hml, hown, hts⟩ (cD_firstByteOf l x1) (cwS 1 hts gX0_openLine_X0_firstByteOf rfl rfl rfl (by decide +kernel) ⟨Nat.le_of_ble_eq_true rfl, Nat.le_of_ble_eq_true rfl⟩) rfl hl.1 rfl (Nat.le_of_ble_eq_true rfl) dX0_openLine_27 ⟨Nat.zero_le _, Nat.zero_le _⟩ ?_
    refine lv_topi (fun t2 et2 => ?_)
    refine kk_mutV (cs := dkW cA q0 q1) (ci := 0) (q0 := 0) (rest := []) ⟨hx, hb, hml, hown, hts⟩ (cD_put l D cA q0 q1 rg tt tk en x1 tt t2) (cwV 1 hts gX0_openLine_X0_put rfl rfl rfl (by decide +kernel) ⟨Nat.le_of_ble_eq_true rfl, Nat.le_of_ble_eq_true rfl⟩) hK hP hD hS rfl rfl rfl hl.1 rfl (Nat.le_of_ble_eq_true rfl) dX0_openLine_30 ⟨Nat.zero_le _, Nat.zero_le _⟩ (fun u3 H locs hu3 hP hS hzu3 hku3 => ?_)
    obtain ⟨rg3, tt3, tk3, en3, ki3, os3⟩ := u3
    have eu3 : (rg3, tt3, tk3, en3, ki3, os3) = dk_put (rg, tt, tk, en, x1, tt) t2 := hu3
    have hD : va_D A (dkW cA q0 q1 (rg3, tt3, tk3, en3, ki3, os3)) := kk_D_same hD rfl
    have hres : (rg3, tt3, tk3, en3, ki3, os3) = dk_open (rg, tt, tk, en, ki, os) x1 := by
      subst et2
      first | rfl | (simp only [dk_open, dk_o2, ← eu3, if_pos c1]; done) | (simp [dk_open, dk_o2, ← eu3, if_pos c1]; done)
    exact W.vret hx hb hr (fun t ht hW => ⟨⟨(rg3, tt3, tk3, en3, ki3, os3), rfl, hres, by show va_P D vwCl _ t.heap; rw [ht]; exact hP⟩, hS.F ht⟩) hS.2.2 dX0_openLine_33
  · refine lv_aload_n hx hb dX0_openLine_8 rfl (lv_at hl 0 rfl) ?_
    refine kk_mutV (cs := dkW cA q0 q1) (ci := 0) (q0 := 0) (rest := []) ⟨hx, hb, hml, hown, hts⟩ (cD_endLine l D cA q0 q1 rg tt tk en ki os) (cwV 0 hts gX0_openLine_X0_endLine rfl rfl rfl (by decide +kernel) ⟨Nat.le_of_ble_eq_true rfl, Nat.le_of_ble_eq_true rfl⟩) hK hP hD hS rfl rfl rfl hl.1 rfl (Nat.le_of_ble_eq_true rfl) dX0_openLine_9 ⟨Nat.zero_le _, Nat.zero_le _⟩ (fun u4 H locs hu4 hP hS hzu4 hku4 => ?_)
    obtain ⟨rg4, tt4, tk4, en4, ki4, os4⟩ := u4
    have eu4 : (rg4, tt4, tk4, en4, ki4, os4) = dk_endL (rg, tt, tk, en, ki, os) := hu4
    have hD : va_D A (dkW cA q0 q1 (rg4, tt4, tk4, en4, ki4, os4)) := kk_D_same hD rfl
    refine lv_aload_n hx hb dX0_openLine_12 rfl (lv_at hl 0 rfl) ?_
    refine lv_iload_n hx hb dX0_openLine_13 rfl (lv_at hl 1 rfl) ?_
    refine va_put (D := D) (ci := 0) (v := .int x1) (ty := .int) (C := RX0) (T := TX0) (N := 6) hx hb hts hin tyX0 tyX0_ok nmX0 hown hK hP hD hS 0 rfl rfl 4 (by decide) lk23 (fun _ h9 => h9) rfl (by decide +kernel) rfl rfl (Nat.le_of_ble_eq_true rfl) dX0_openLine_14 (fun H locs hP hD hS => ?_)
    have hP : va_P D vwCl (dkW cA q0 q1 (rg4, tt4, tk4, en4, x1, os4)) H := hP
    have hD : va_D A (dkW cA q0 q1 (rg4, tt4, tk4, en4, x1, os4)) := hD
    refine lv_aload_n hx hb dX0_openLine_17 rfl (lv_at hl 0 rfl) ?_
    refine lv_aload_n hx hb dX0_openLine_18 rfl (lv_at hl 0 rfl) ?_
    refine va_get (D := D) (ci := 0) (v := .int tt4) (C := RX0) (T := TX0) (N := 6) hx hb hts hin hown hK hP 0 rfl rfl 1 (by decide) lk13 (fun _ h9 => h9) rfl dX0_openLine_19 ?_
    refine va_put (D := D) (ci := 0) (v := .int tt4) (ty := .int) (C := RX0) (T := TX0) (N := 6) hx hb hts hin tyX0 tyX0_ok nmX0 hown hK hP hD hS 0 rfl rfl 5 (by decide) lk26 (fun _ h9 => h9) rfl (by decide +kernel) rfl rfl (Nat.le_of_ble_eq_true rfl) dX0_openLine_22 (fun H locs hP hD hS => ?_)
    have hP : va_P D vwCl (dkW cA q0 q1 (rg4, tt4, tk4, en4, x1, tt4)) H := hP
    have hD : va_D A (dkW cA q0 q1 (rg4, tt4, tk4, en4, x1, tt4)) := hD
    refine lv_aload_n hx hb dX0_openLine_25 rfl (lv_at hl 0 rfl) ?_
    refine lv_iload_n hx hb dX0_openLine_26 rfl (lv_at hl 1 rfl) ?_
    refine kk_readS (rest := [.ref q0]) ⟨hx, hb, hml, hown, hts⟩ (cD_firstByteOf l x1) (cwS 1 hts gX0_openLine_X0_firstByteOf rfl rfl rfl (by decide +kernel) ⟨Nat.le_of_ble_eq_true rfl, Nat.le_of_ble_eq_true rfl⟩) rfl hl.1 rfl (Nat.le_of_ble_eq_true rfl) dX0_openLine_27 ⟨Nat.zero_le _, Nat.zero_le _⟩ ?_
    refine lv_topi (fun t5 et5 => ?_)
    refine kk_mutV (cs := dkW cA q0 q1) (ci := 0) (q0 := 0) (rest := []) ⟨hx, hb, hml, hown, hts⟩ (cD_put l D cA q0 q1 rg4 tt4 tk4 en4 x1 tt4 t5) (cwV 1 hts gX0_openLine_X0_put rfl rfl rfl (by decide +kernel) ⟨Nat.le_of_ble_eq_true rfl, Nat.le_of_ble_eq_true rfl⟩) hK hP hD hS rfl rfl rfl hl.1 rfl (Nat.le_of_ble_eq_true rfl) dX0_openLine_30 ⟨Nat.zero_le _, Nat.zero_le _⟩ (fun u6 H locs hu6 hP hS hzu6 hku6 => ?_)
    obtain ⟨rg6, tt6, tk6, en6, ki6, os6⟩ := u6
    have eu6 : (rg6, tt6, tk6, en6, ki6, os6) = dk_put (rg4, tt4, tk4, en4, x1, tt4) t5 := hu6
    have hD : va_D A (dkW cA q0 q1 (rg6, tt6, tk6, en6, ki6, os6)) := kk_D_same hD rfl
    have hres : (rg6, tt6, tk6, en6, ki6, os6) = dk_open (rg, tt, tk, en, ki, os) x1 := by
      subst et5
      first | rfl | (simp only [dk_open, dk_o2, ← eu4, ← eu6, if_neg c1]; done) | (simp [dk_open, dk_o2, ← eu4, ← eu6, if_neg c1]; done)
    exact W.vret hx hb hr (fun t ht hW => ⟨⟨(rg6, tt6, tk6, en6, ki6, os6), rfl, hres, by show va_P D vwCl _ t.heap; rw [ht]; exact hP⟩, hS.F ht⟩) hS.2.2 dX0_openLine_33
set_option maxHeartbeats 4000000 in
set_option maxRecDepth 100000 in
theorem cD_begin (l : Launch) (D : va_G) (cA : ClassId) (q0 q1 : Nat) (rg : Nat → Int32) (tt tk en ki os : Int32) (x1 : Int32) : dkI l yX0_begin wsX0_begin ({ frames := 3, cells := 0, slots := 0, locals := 63 }) D cA q0 q1 (rg, tt, tk, en, ki, os) [.int x1] (dk_begin (rg, tt, tk, en, ki, os) x1).1 (dk_begin (rg, tt, tk, en, ki, os) x1).2 := by
  refine kk_of (cc := cX0_begin) (maxL := 2) (ret := (some .boolean)) (by decide) rfl (Nat.le_of_ble_eq_true rfl) ?_
  intro p e s m below meth c ls hx hb hr hts hown hlocks hml hnm hP hK hD hl
  have hown : s.vm.findClass RX0 = some m.cls := hown
  have hl : lv_has ls 2 [(0, .ref q0), (1, .int x1)] := hl
  have hin : ∀ w ∈ wsX00, w ∈ wsX0_begin := by decide +kernel
  generalize hAe : kk_A (dkW cA q0 q1 (rg, tt, tk, en, ki, os)) = A at hD ⊢
  have hS : va_S A s.heap s.heap [] := va_S.rf
  refine lv_iload_n hx hb dX0_begin_0 rfl (lv_at hl 1 rfl) ?_
  refine lv_if_lt (tgt := 20) hx hb dX0_begin_1 (by decide) (fun c1 => ?_) (fun c1 => ?_)
  · refine lv_iconst (v := 0) hx hb dX0_begin_20 (by decide) ?_
    have hres : 0 = (dk_begin (rg, tt, tk, en, ki, os) x1).1 := by
      first | rfl | (simp only [dk_begin, if_pos c1]; done) | (simp [dk_begin, if_pos c1]; done)
    have hre2 : (rg, tt, tk, en, ki, os) = (dk_begin (rg, tt, tk, en, ki, os) x1).2 := by
      first | rfl | (simp only [dk_begin, if_pos c1]; done) | (simp [dk_begin, if_pos c1]; done)
    exact W.zret (v := 0) (ty := .boolean) hx hb hr rfl (fun t ht hW => ⟨⟨0, (rg, tt, tk, en, ki, os), rfl, ⟨hres, hre2⟩, by show va_P D vwCl _ t.heap; rw [ht]; exact hP⟩, hS.F ht⟩) hS.2.2 dX0_begin_21
  · refine lv_iload_n hx hb dX0_begin_4 rfl (lv_at hl 1 rfl) ?_
    refine lv_iconst (v := 3) hx hb dX0_begin_5 (by decide) ?_
    refine lv_icmp_gt (tgt := 20) hx hb dX0_begin_6 (by decide) (fun c2 => ?_) (fun c2 => ?_)
    · refine lv_iconst (v := 0) hx hb dX0_begin_20 (by decide) ?_
      have hres : 0 = (dk_begin (rg, tt, tk, en, ki, os) x1).1 := by
        first | rfl | (simp only [dk_begin, if_neg c1, if_pos c2]; done) | (simp [dk_begin, if_neg c1, if_pos c2]; done)
      have hre2 : (rg, tt, tk, en, ki, os) = (dk_begin (rg, tt, tk, en, ki, os) x1).2 := by
        first | rfl | (simp only [dk_begin, if_neg c1, if_pos c2]; done) | (simp [dk_begin, if_neg c1, if_pos c2]; done)
      exact W.zret (v := 0) (ty := .boolean) hx hb hr rfl (fun t ht hW => ⟨⟨0, (rg, tt, tk, en, ki, os), rfl, ⟨hres, hre2⟩, by show va_P D vwCl _ t.heap; rw [ht]; exact hP⟩, hS.F ht⟩) hS.2.2 dX0_begin_21
    · refine lv_aload_n hx hb dX0_begin_9 rfl (lv_at hl 0 rfl) ?_
      refine lv_aload_n hx hb dX0_begin_10 rfl (lv_at hl 0 rfl) ?_
      refine kk_readV (ci := 0) (q0 := 0) (rest := [.ref q0]) ⟨hx, hb, hml, hown, hts⟩ (cD_bytesToOpen l D cA q0 q1 rg tt tk en ki os) (cwV 0 hts gX0_begin_X0_bytesToOpen rfl rfl rfl (by decide +kernel) ⟨Nat.le_of_ble_eq_true rfl, Nat.le_of_ble_eq_true rfl⟩) hK hP hD rfl rfl rfl hl.1 rfl (Nat.le_of_ble_eq_true rfl) dX0_begin_11 ⟨Nat.zero_le _, Nat.zero_le _⟩ ?_
      refine lv_topi (fun t3 et3 => ?_)
      refine kk_readV (ci := 0) (q0 := 0) (rest := []) ⟨hx, hb, hml, hown, hts⟩ (cD_hasRoomFor l D cA q0 q1 rg tt tk en ki os t3) (cwV 1 hts gX0_begin_X0_hasRoomFor rfl rfl rfl (by decide +kernel) ⟨Nat.le_of_ble_eq_true rfl, Nat.le_of_ble_eq_true rfl⟩) hK hP hD rfl rfl rfl hl.1 rfl (Nat.le_of_ble_eq_true rfl) dX0_begin_14 ⟨Nat.zero_le _, Nat.zero_le _⟩ ?_
      refine lv_topi (fun t4 et4 => ?_)
      refine lv_if_ne (tgt := 22) hx hb dX0_begin_17 (by decide) (fun c5 => ?_) (fun c5 => ?_)
      · refine lv_aload_n hx hb dX0_begin_22 rfl (lv_at hl 0 rfl) ?_
        refine lv_iload_n hx hb dX0_begin_23 rfl (lv_at hl 1 rfl) ?_
        refine kk_mutV (cs := dkW cA q0 q1) (ci := 0) (q0 := 0) (rest := []) ⟨hx, hb, hml, hown, hts⟩ (cD_openLine l D cA q0 q1 rg tt tk en ki os x1) (cwV 1 hts gX0_begin_X0_openLine rfl rfl rfl (by decide +kernel) ⟨Nat.le_of_ble_eq_true rfl, Nat.le_of_ble_eq_true rfl⟩) hK hP hD hS rfl rfl rfl hl.1 rfl (Nat.le_of_ble_eq_true rfl) dX0_begin_24 ⟨Nat.zero_le _, Nat.zero_le _⟩ (fun u6 H locs hu6 hP hS hzu6 hku6 => ?_)
        obtain ⟨rg6, tt6, tk6, en6, ki6, os6⟩ := u6
        have eu6 : (rg6, tt6, tk6, en6, ki6, os6) = dk_open (rg, tt, tk, en, ki, os) x1 := hu6
        have hD : va_D A (dkW cA q0 q1 (rg6, tt6, tk6, en6, ki6, os6)) := kk_D_same hD rfl
        refine lv_iconst (v := 1) hx hb dX0_begin_27 (by decide) ?_
        have hres : 1 = (dk_begin (rg, tt, tk, en, ki, os) x1).1 := by
          subst et4 et3
          first | rfl | (simp only [dk_begin, ← eu6, if_neg c1, if_neg c2, if_pos c5]; done) | (simp [dk_begin, ← eu6, if_neg c1, if_neg c2, if_pos c5]; done)
        have hre2 : (rg6, tt6, tk6, en6, ki6, os6) = (dk_begin (rg, tt, tk, en, ki, os) x1).2 := by
          subst et4 et3
          first | rfl | (simp only [dk_begin, ← eu6, if_neg c1, if_neg c2, if_pos c5]; done) | (simp [dk_begin, ← eu6, if_neg c1, if_neg c2, if_pos c5]; done)
        exact W.zret (v := 1) (ty := .boolean) hx hb hr rfl (fun t ht hW => ⟨⟨1, (rg6, tt6, tk6, en6, ki6, os6), rfl, ⟨hres, hre2⟩, by show va_P D vwCl _ t.heap; rw [ht]; exact hP⟩, hS.F ht⟩) hS.2.2 dX0_begin_28
      · refine lv_iconst (v := 0) hx hb dX0_begin_20 (by decide) ?_
        have hres : 0 = (dk_begin (rg, tt, tk, en, ki, os) x1).1 := by
          subst et4 et3
          first | rfl | (simp only [dk_begin, if_neg c1, if_neg c2, if_neg (not_not_intro c5)]; done) | (simp [dk_begin, if_neg c1, if_neg c2, if_neg (not_not_intro c5)]; done)
        have hre2 : (rg, tt, tk, en, ki, os) = (dk_begin (rg, tt, tk, en, ki, os) x1).2 := by
          subst et4 et3
          first | rfl | (simp only [dk_begin, if_neg c1, if_neg c2, if_neg (not_not_intro c5)]; done) | (simp [dk_begin, if_neg c1, if_neg c2, if_neg (not_not_intro c5)]; done)
        exact W.zret (v := 0) (ty := .boolean) hx hb hr rfl (fun t ht hW => ⟨⟨0, (rg, tt, tk, en, ki, os), rfl, ⟨hres, hre2⟩, by show va_P D vwCl _ t.heap; rw [ht]; exact hP⟩, hS.F ht⟩) hS.2.2 dX0_begin_21
set_option maxHeartbeats 4000000 in
set_option maxRecDepth 100000 in
theorem cD_add (l : Launch) (D : va_G) (cA : ClassId) (q0 q1 : Nat) (rg : Nat → Int32) (tt tk en ki os : Int32) (x1 : Int32) : dkI l yX0_add wsX0_add ({ frames := 4, cells := 0, slots := 0, locals := 86 }) D cA q0 q1 (rg, tt, tk, en, ki, os) [.int x1] (dk_add (rg, tt, tk, en, ki, os) x1).1 (dk_add (rg, tt, tk, en, ki, os) x1).2 := by
  refine kk_of (cc := cX0_add) (maxL := 2) (ret := (some .boolean)) (by decide) rfl (Nat.le_of_ble_eq_true rfl) ?_
  intro p e s m below meth c ls hx hb hr hts hown hlocks hml hnm hP hK hD hl
  have hown : s.vm.findClass RX0 = some m.cls := hown
  have hl : lv_has ls 2 [(0, .ref q0), (1, .int x1)] := hl
  have hin : ∀ w ∈ wsX00, w ∈ wsX0_add := by decide +kernel
  have lk23 := hts (Cond.fieldLink RX0 23 "EventLineDesk" "openKind" "I") (by decide +kernel)
  generalize hAe : kk_A (dkW cA q0 q1 (rg, tt, tk, en, ki, os)) = A at hD ⊢
  have hS : va_S A s.heap s.heap [] := va_S.rf
  refine lv_aload_n hx hb dX0_add_0 rfl (lv_at hl 0 rfl) ?_
  refine va_get (D := D) (ci := 0) (v := .int ki) (C := RX0) (T := TX0) (N := 6) hx hb hts hin hown hK hP 0 rfl rfl 4 (by decide) lk23 (fun _ h9 => h9) rfl dX0_add_1 ?_
  refine lv_iconst (v := (-1)) hx hb dX0_add_4 (by decide) ?_
  refine lv_icmp_eq (tgt := 23) hx hb dX0_add_5 (by decide) (fun c1 => ?_) (fun c1 => ?_)
  · refine lv_iconst (v := 0) hx hb dX0_add_23 (by decide) ?_
    have hres : 0 = (dk_add (rg, tt, tk, en, ki, os) x1).1 := by
      first | rfl | (simp only [dk_add, if_pos c1]; done) | (simp [dk_add, if_pos c1]; done)
    have hre2 : (rg, tt, tk, en, ki, os) = (dk_add (rg, tt, tk, en, ki, os) x1).2 := by
      first | rfl | (simp only [dk_add, if_pos c1]; done) | (simp [dk_add, if_pos c1]; done)
    exact W.zret (v := 0) (ty := .boolean) hx hb hr rfl (fun t ht hW => ⟨⟨0, (rg, tt, tk, en, ki, os), rfl, ⟨hres, hre2⟩, by show va_P D vwCl _ t.heap; rw [ht]; exact hP⟩, hS.F ht⟩) hS.2.2 dX0_add_24
  · refine lv_aload_n hx hb dX0_add_8 rfl (lv_at hl 0 rfl) ?_
    refine va_get (D := D) (ci := 0) (v := .int ki) (C := RX0) (T := TX0) (N := 6) hx hb hts hin hown hK hP 0 rfl rfl 4 (by decide) lk23 (fun _ h9 => h9) rfl dX0_add_9 ?_
    refine lv_iconst (v := 4) hx hb dX0_add_12 (by decide) ?_
    refine lv_icmp_eq (tgt := 23) hx hb dX0_add_13 (by decide) (fun c2 => ?_) (fun c2 => ?_)
    · refine lv_iconst (v := 0) hx hb dX0_add_23 (by decide) ?_
      have hres : 0 = (dk_add (rg, tt, tk, en, ki, os) x1).1 := by
        first | rfl | (simp only [dk_add, if_neg c1, if_pos c2]; done) | (simp [dk_add, if_neg c1, if_pos c2]; done)
      have hre2 : (rg, tt, tk, en, ki, os) = (dk_add (rg, tt, tk, en, ki, os) x1).2 := by
        first | rfl | (simp only [dk_add, if_neg c1, if_pos c2]; done) | (simp [dk_add, if_neg c1, if_pos c2]; done)
      exact W.zret (v := 0) (ty := .boolean) hx hb hr rfl (fun t ht hW => ⟨⟨0, (rg, tt, tk, en, ki, os), rfl, ⟨hres, hre2⟩, by show va_P D vwCl _ t.heap; rw [ht]; exact hP⟩, hS.F ht⟩) hS.2.2 dX0_add_24
    · refine lv_iload_n hx hb dX0_add_16 rfl (lv_at hl 1 rfl) ?_
      refine kk_readS (rest := []) ⟨hx, hb, hml, hown, hts⟩ (cD_isCharacter l x1) (cwS 1 hts gX0_add_X0_isCharacter rfl rfl rfl (by decide +kernel) ⟨Nat.le_of_ble_eq_true rfl, Nat.le_of_ble_eq_true rfl⟩) rfl hl.1 rfl (Nat.le_of_ble_eq_true rfl) dX0_add_17 ⟨Nat.zero_le _, Nat.zero_le _⟩ ?_
      refine lv_topi (fun t3 et3 => ?_)
      refine lv_if_ne (tgt := 25) hx hb dX0_add_20 (by decide) (fun c4 => ?_) (fun c4 => ?_)
      · refine lv_aload_n hx hb dX0_add_25 rfl (lv_at hl 0 rfl) ?_
        refine lv_iload_n hx hb dX0_add_26 rfl (lv_at hl 1 rfl) ?_
        refine kk_readS (rest := [.ref q0]) ⟨hx, hb, hml, hown, hts⟩ (cD_sizeOf l x1) (cwS 1 hts gX0_add_X0_sizeOf rfl rfl rfl (by decide +kernel) ⟨Nat.le_of_ble_eq_true rfl, Nat.le_of_ble_eq_true rfl⟩) rfl hl.1 rfl (Nat.le_of_ble_eq_true rfl) dX0_add_27 ⟨Nat.zero_le _, Nat.zero_le _⟩ ?_
        refine lv_topi (fun t5 et5 => ?_)
        refine kk_readV (ci := 0) (q0 := 0) (rest := []) ⟨hx, hb, hml, hown, hts⟩ (cD_hasRoomFor l D cA q0 q1 rg tt tk en ki os t5) (cwV 1 hts gX0_add_X0_hasRoomFor rfl rfl rfl (by decide +kernel) ⟨Nat.le_of_ble_eq_true rfl, Nat.le_of_ble_eq_true rfl⟩) hK hP hD rfl rfl rfl hl.1 rfl (Nat.le_of_ble_eq_true rfl) dX0_add_30 ⟨Nat.zero_le _, Nat.zero_le _⟩ ?_
        refine lv_topi (fun t6 et6 => ?_)
        refine lv_if_ne (tgt := 38) hx hb dX0_add_33 (by decide) (fun c7 => ?_) (fun c7 => ?_)
        · refine lv_aload_n hx hb dX0_add_38 rfl (lv_at hl 0 rfl) ?_
          refine lv_iload_n hx hb dX0_add_39 rfl (lv_at hl 1 rfl) ?_
          refine kk_mutV (cs := dkW cA q0 q1) (ci := 0) (q0 := 0) (rest := []) ⟨hx, hb, hml, hown, hts⟩ (cD_putCharacter l D cA q0 q1 rg tt tk en ki os x1) (cwV 1 hts gX0_add_X0_putCharacter rfl rfl rfl (by decide +kernel) ⟨Nat.le_of_ble_eq_true rfl, Nat.le_of_ble_eq_true rfl⟩) hK hP hD hS rfl rfl rfl hl.1 rfl (Nat.le_of_ble_eq_true rfl) dX0_add_40 ⟨Nat.zero_le _, Nat.zero_le _⟩ (fun u8 H locs hu8 hP hS hzu8 hku8 => ?_)
          obtain ⟨rg8, tt8, tk8, en8, ki8, os8⟩ := u8
          have eu8 : (rg8, tt8, tk8, en8, ki8, os8) = dk_putC (rg, tt, tk, en, ki, os) x1 := hu8
          have hD : va_D A (dkW cA q0 q1 (rg8, tt8, tk8, en8, ki8, os8)) := kk_D_same hD rfl
          refine lv_iconst (v := 1) hx hb dX0_add_43 (by decide) ?_
          have hres : 1 = (dk_add (rg, tt, tk, en, ki, os) x1).1 := by
            subst et6 et5 et3
            first | rfl | (simp only [dk_add, ← eu8, if_neg c1, if_neg c2, if_pos c4, if_pos c7]; done) | (simp [dk_add, ← eu8, if_neg c1, if_neg c2, if_pos c4, if_pos c7]; done)
          have hre2 : (rg8, tt8, tk8, en8, ki8, os8) = (dk_add (rg, tt, tk, en, ki, os) x1).2 := by
            subst et6 et5 et3
            first | rfl | (simp only [dk_add, ← eu8, if_neg c1, if_neg c2, if_pos c4, if_pos c7]; done) | (simp [dk_add, ← eu8, if_neg c1, if_neg c2, if_pos c4, if_pos c7]; done)
          exact W.zret (v := 1) (ty := .boolean) hx hb hr rfl (fun t ht hW => ⟨⟨1, (rg8, tt8, tk8, en8, ki8, os8), rfl, ⟨hres, hre2⟩, by show va_P D vwCl _ t.heap; rw [ht]; exact hP⟩, hS.F ht⟩) hS.2.2 dX0_add_44
        · refine lv_iconst (v := 0) hx hb dX0_add_36 (by decide) ?_
          have hres : 0 = (dk_add (rg, tt, tk, en, ki, os) x1).1 := by
            subst et6 et5 et3
            first | rfl | (simp only [dk_add, if_neg c1, if_neg c2, if_pos c4, if_neg (not_not_intro c7)]; done) | (simp [dk_add, if_neg c1, if_neg c2, if_pos c4, if_neg (not_not_intro c7)]; done)
          have hre2 : (rg, tt, tk, en, ki, os) = (dk_add (rg, tt, tk, en, ki, os) x1).2 := by
            subst et6 et5 et3
            first | rfl | (simp only [dk_add, if_neg c1, if_neg c2, if_pos c4, if_neg (not_not_intro c7)]; done) | (simp [dk_add, if_neg c1, if_neg c2, if_pos c4, if_neg (not_not_intro c7)]; done)
          exact W.zret (v := 0) (ty := .boolean) hx hb hr rfl (fun t ht hW => ⟨⟨0, (rg, tt, tk, en, ki, os), rfl, ⟨hres, hre2⟩, by show va_P D vwCl _ t.heap; rw [ht]; exact hP⟩, hS.F ht⟩) hS.2.2 dX0_add_37
      · refine lv_iconst (v := 0) hx hb dX0_add_23 (by decide) ?_
        have hres : 0 = (dk_add (rg, tt, tk, en, ki, os) x1).1 := by
          subst et3
          first | rfl | (simp only [dk_add, if_neg c1, if_neg c2, if_neg (not_not_intro c4)]; done) | (simp [dk_add, if_neg c1, if_neg c2, if_neg (not_not_intro c4)]; done)
        have hre2 : (rg, tt, tk, en, ki, os) = (dk_add (rg, tt, tk, en, ki, os) x1).2 := by
          subst et3
          first | rfl | (simp only [dk_add, if_neg c1, if_neg c2, if_neg (not_not_intro c4)]; done) | (simp [dk_add, if_neg c1, if_neg c2, if_neg (not_not_intro c4)]; done)
        exact W.zret (v := 0) (ty := .boolean) hx hb hr rfl (fun t ht hW => ⟨⟨0, (rg, tt, tk, en, ki, os), rfl, ⟨hres, hre2⟩, by show va_P D vwCl _ t.heap; rw [ht]; exact hP⟩, hS.F ht⟩) hS.2.2 dX0_add_24
set_option maxHeartbeats 4000000 in
set_option maxRecDepth 100000 in
theorem cD_text (l : Launch) (D : va_G) (cA : ClassId) (q0 q1 : Nat) (rg : Nat → Int32) (tt tk en ki os : Int32) (x1 : Int32) : dkI l yX0_text wsX0_text ({ frames := 4, cells := 0, slots := 0, locals := 86 }) D cA q0 q1 (rg, tt, tk, en, ki, os) [.int x1] (dk_text (rg, tt, tk, en, ki, os) x1).1 (dk_text (rg, tt, tk, en, ki, os) x1).2 := by
  refine kk_of (cc := cX0_text) (maxL := 3) (ret := (some .boolean)) (by decide) rfl (Nat.le_of_ble_eq_true rfl) ?_
  intro p e s m below meth c ls hx hb hr hts hown hlocks hml hnm hP hK hD hl
  have hown : s.vm.findClass RX0 = some m.cls := hown
  have hl : lv_has ls 3 [(0, .ref q0), (1, .int x1)] := hl
  have hin : ∀ w ∈ wsX00, w ∈ wsX0_text := by decide +kernel
  have lk23 := hts (Cond.fieldLink RX0 23 "EventLineDesk" "openKind" "I") (by decide +kernel)
  generalize hAe : kk_A (dkW cA q0 q1 (rg, tt, tk, en, ki, os)) = A at hD ⊢
  have hS : va_S A s.heap s.heap [] := va_S.rf
  refine lv_iload_n hx hb dX0_text_0 rfl (lv_at hl 1 rfl) ?_
  refine kk_readS (rest := []) ⟨hx, hb, hml, hown, hts⟩ (cD_isCharacter l x1) (cwS 1 hts gX0_text_X0_isCharacter rfl rfl rfl (by decide +kernel) ⟨Nat.le_of_ble_eq_true rfl, Nat.le_of_ble_eq_true rfl⟩) rfl hl.1 rfl (Nat.le_of_ble_eq_true rfl) dX0_text_1 ⟨Nat.zero_le _, Nat.zero_le _⟩ ?_
  refine lv_topi (fun t1 et1 => ?_)
  refine lv_if_ne (tgt := 9) hx hb dX0_text_4 (by decide) (fun c2 => ?_) (fun c2 => ?_)
  · refine lv_aload_n hx hb dX0_text_9 rfl (lv_at hl 0 rfl) ?_
    refine va_get (D := D) (ci := 0) (v := .int ki) (C := RX0) (T := TX0) (N := 6) hx hb hts hin hown hK hP 0 rfl rfl 4 (by decide) lk23 (fun _ h9 => h9) rfl dX0_text_10 ?_
    refine lv_iconst (v := 4) hx hb dX0_text_13 (by decide) ?_
    refine lv_icmp_ne (tgt := 21) hx hb dX0_text_14 (by decide) (fun c3 => ?_) (fun c3 => ?_)
    · refine lv_aload_n hx hb dX0_text_21 rfl (lv_at hl 0 rfl) ?_
      refine kk_readV (ci := 0) (q0 := 0) (rest := []) ⟨hx, hb, hml, hown, hts⟩ (cD_bytesToOpen l D cA q0 q1 rg tt tk en ki os) (cwV 0 hts gX0_text_X0_bytesToOpen rfl rfl rfl (by decide +kernel) ⟨Nat.le_of_ble_eq_true rfl, Nat.le_of_ble_eq_true rfl⟩) hK hP hD rfl rfl rfl hl.1 rfl (Nat.le_of_ble_eq_true rfl) dX0_text_22 ⟨Nat.zero_le _, Nat.zero_le _⟩ ?_
      refine lv_topi (fun t4 et4 => ?_)
      refine lv_istore_n (lv' := [(2, .int t4), (0, .ref q0), (1, .int x1)]) hx hb dX0_text_25 rfl hl (by decide) rfl (fun ls hl => ?_)
      refine lv_aload_n hx hb dX0_text_26 rfl (lv_at hl 1 rfl) ?_
      refine lv_iload_n hx hb dX0_text_27 rfl (lv_at hl 0 rfl) ?_
      refine lv_iload_n hx hb dX0_text_28 rfl (lv_at hl 2 rfl) ?_
      refine kk_readS (rest := [.int t4, .ref q0]) ⟨hx, hb, hml, hown, hts⟩ (cD_sizeOf l x1) (cwS 1 hts gX0_text_X0_sizeOf rfl rfl rfl (by decide +kernel) ⟨Nat.le_of_ble_eq_true rfl, Nat.le_of_ble_eq_true rfl⟩) rfl hl.1 rfl (Nat.le_of_ble_eq_true rfl) dX0_text_29 ⟨Nat.zero_le _, Nat.zero_le _⟩ ?_
      refine lv_topi (fun t5 et5 => ?_)
      refine lv_iadd hx hb dX0_text_32 ?_
      refine lv_topi (fun t6 et6 => ?_)
      refine kk_readV (ci := 0) (q0 := 0) (rest := []) ⟨hx, hb, hml, hown, hts⟩ (cD_hasRoomFor l D cA q0 q1 rg tt tk en ki os t6) (cwV 1 hts gX0_text_X0_hasRoomFor rfl rfl rfl (by decide +kernel) ⟨Nat.le_of_ble_eq_true rfl, Nat.le_of_ble_eq_true rfl⟩) hK hP hD rfl rfl rfl hl.1 rfl (Nat.le_of_ble_eq_true rfl) dX0_text_33 ⟨Nat.zero_le _, Nat.zero_le _⟩ ?_
      refine lv_topi (fun t7 et7 => ?_)
      refine lv_if_ne (tgt := 41) hx hb dX0_text_36 (by decide) (fun c8 => ?_) (fun c8 => ?_)
      · refine lv_aload_n hx hb dX0_text_41 rfl (lv_at hl 1 rfl) ?_
        refine va_get (D := D) (ci := 0) (v := .int ki) (C := RX0) (T := TX0) (N := 6) hx hb hts hin hown hK hP 0 rfl rfl 4 (by decide) lk23 (fun _ h9 => h9) rfl dX0_text_42 ?_
        refine lv_iconst (v := 4) hx hb dX0_text_45 (by decide) ?_
        refine lv_icmp_eq (tgt := 54) hx hb dX0_text_46 (by decide) (fun c9 => ?_) (fun c9 => ?_)
        · exact absurd c9 c3
        · refine lv_aload_n hx hb dX0_text_49 rfl (lv_at hl 1 rfl) ?_
          refine lv_iconst (v := 4) hx hb dX0_text_50 (by decide) ?_
          refine kk_mutV (cs := dkW cA q0 q1) (ci := 0) (q0 := 0) (rest := []) ⟨hx, hb, hml, hown, hts⟩ (cD_openLine l D cA q0 q1 rg tt tk en ki os 4) (cwV 1 hts gX0_text_X0_openLine rfl rfl rfl (by decide +kernel) ⟨Nat.le_of_ble_eq_true rfl, Nat.le_of_ble_eq_true rfl⟩) hK hP hD hS rfl rfl rfl hl.1 rfl (Nat.le_of_ble_eq_true rfl) dX0_text_51 ⟨Nat.zero_le _, Nat.zero_le _⟩ (fun u10 H locs hu10 hP hS hzu10 hku10 => ?_)
          obtain ⟨rg10, tt10, tk10, en10, ki10, os10⟩ := u10
          have eu10 : (rg10, tt10, tk10, en10, ki10, os10) = dk_open (rg, tt, tk, en, ki, os) 4 := hu10
          have hD : va_D A (dkW cA q0 q1 (rg10, tt10, tk10, en10, ki10, os10)) := kk_D_same hD rfl
          refine lv_aload_n hx hb dX0_text_54 rfl (lv_at hl 1 rfl) ?_
          refine lv_iload_n hx hb dX0_text_55 rfl (lv_at hl 2 rfl) ?_
          refine kk_mutV (cs := dkW cA q0 q1) (ci := 0) (q0 := 0) (rest := []) ⟨hx, hb, hml, hown, hts⟩ (cD_putCharacter l D cA q0 q1 rg10 tt10 tk10 en10 ki10 os10 x1) (cwV 1 hts gX0_text_X0_putCharacter rfl rfl rfl (by decide +kernel) ⟨Nat.le_of_ble_eq_true rfl, Nat.le_of_ble_eq_true rfl⟩) hK hP hD hS rfl rfl rfl hl.1 rfl (Nat.le_of_ble_eq_true rfl) dX0_text_56 ⟨Nat.zero_le _, Nat.zero_le _⟩ (fun u11 H locs hu11 hP hS hzu11 hku11 => ?_)
          obtain ⟨rg11, tt11, tk11, en11, ki11, os11⟩ := u11
          have eu11 : (rg11, tt11, tk11, en11, ki11, os11) = dk_putC (rg10, tt10, tk10, en10, ki10, os10) x1 := hu11
          have hD : va_D A (dkW cA q0 q1 (rg11, tt11, tk11, en11, ki11, os11)) := kk_D_same hD rfl
          refine lv_iconst (v := 1) hx hb dX0_text_59 (by decide) ?_
          have hres : 1 = (dk_text (rg, tt, tk, en, ki, os) x1).1 := by
            subst et7 et6 et5 et4 et1
            first | rfl | (simp only [dk_text, ← eu10, ← eu11, if_pos c2, if_pos c3, if_pos c8, if_neg c3]; done) | (simp [dk_text, ← eu10, ← eu11, if_pos c2, if_pos c3, if_pos c8, if_neg c3]; done)
          have hre2 : (rg11, tt11, tk11, en11, ki11, os11) = (dk_text (rg, tt, tk, en, ki, os) x1).2 := by
            subst et7 et6 et5 et4 et1
            first | rfl | (simp only [dk_text, ← eu10, ← eu11, if_pos c2, if_pos c3, if_pos c8, if_neg c3]; done) | (simp [dk_text, ← eu10, ← eu11, if_pos c2, if_pos c3, if_pos c8, if_neg c3]; done)
          exact W.zret (v := 1) (ty := .boolean) hx hb hr rfl (fun t ht hW => ⟨⟨1, (rg11, tt11, tk11, en11, ki11, os11), rfl, ⟨hres, hre2⟩, by show va_P D vwCl _ t.heap; rw [ht]; exact hP⟩, hS.F ht⟩) hS.2.2 dX0_text_60
      · refine lv_iconst (v := 0) hx hb dX0_text_39 (by decide) ?_
        have hres : 0 = (dk_text (rg, tt, tk, en, ki, os) x1).1 := by
          subst et7 et6 et5 et4 et1
          first | rfl | (simp only [dk_text, if_pos c2, if_pos c3, if_neg (not_not_intro c8)]; done) | (simp [dk_text, if_pos c2, if_pos c3, if_neg (not_not_intro c8)]; done)
        have hre2 : (rg, tt, tk, en, ki, os) = (dk_text (rg, tt, tk, en, ki, os) x1).2 := by
          subst et7 et6 et5 et4 et1
          first | rfl | (simp only [dk_text, if_pos c2, if_pos c3, if_neg (not_not_intro c8)]; done) | (simp [dk_text, if_pos c2, if_pos c3, if_neg (not_not_intro c8)]; done)
        exact W.zret (v := 0) (ty := .boolean) hx hb hr rfl (fun t ht hW => ⟨⟨0, (rg, tt, tk, en, ki, os), rfl, ⟨hres, hre2⟩, by show va_P D vwCl _ t.heap; rw [ht]; exact hP⟩, hS.F ht⟩) hS.2.2 dX0_text_40
    · refine lv_iconst (v := 0) hx hb dX0_text_17 (by decide) ?_
      refine lv_goto (tgt := 25) hx hb dX0_text_18 (by decide) ?_
      refine lv_istore_n (lv' := [(2, .int 0), (0, .ref q0), (1, .int x1)]) hx hb dX0_text_25 rfl hl (by decide) rfl (fun ls hl => ?_)
      refine lv_aload_n hx hb dX0_text_26 rfl (lv_at hl 1 rfl) ?_
      refine lv_iload_n hx hb dX0_text_27 rfl (lv_at hl 0 rfl) ?_
      refine lv_iload_n hx hb dX0_text_28 rfl (lv_at hl 2 rfl) ?_
      refine kk_readS (rest := [.int 0, .ref q0]) ⟨hx, hb, hml, hown, hts⟩ (cD_sizeOf l x1) (cwS 1 hts gX0_text_X0_sizeOf rfl rfl rfl (by decide +kernel) ⟨Nat.le_of_ble_eq_true rfl, Nat.le_of_ble_eq_true rfl⟩) rfl hl.1 rfl (Nat.le_of_ble_eq_true rfl) dX0_text_29 ⟨Nat.zero_le _, Nat.zero_le _⟩ ?_
      refine lv_topi (fun t12 et12 => ?_)
      refine lv_iadd hx hb dX0_text_32 ?_
      refine lv_topi (fun t13 et13 => ?_)
      refine kk_readV (ci := 0) (q0 := 0) (rest := []) ⟨hx, hb, hml, hown, hts⟩ (cD_hasRoomFor l D cA q0 q1 rg tt tk en ki os t13) (cwV 1 hts gX0_text_X0_hasRoomFor rfl rfl rfl (by decide +kernel) ⟨Nat.le_of_ble_eq_true rfl, Nat.le_of_ble_eq_true rfl⟩) hK hP hD rfl rfl rfl hl.1 rfl (Nat.le_of_ble_eq_true rfl) dX0_text_33 ⟨Nat.zero_le _, Nat.zero_le _⟩ ?_
      refine lv_topi (fun t14 et14 => ?_)
      refine lv_if_ne (tgt := 41) hx hb dX0_text_36 (by decide) (fun c15 => ?_) (fun c15 => ?_)
      · refine lv_aload_n hx hb dX0_text_41 rfl (lv_at hl 1 rfl) ?_
        refine va_get (D := D) (ci := 0) (v := .int ki) (C := RX0) (T := TX0) (N := 6) hx hb hts hin hown hK hP 0 rfl rfl 4 (by decide) lk23 (fun _ h9 => h9) rfl dX0_text_42 ?_
        refine lv_iconst (v := 4) hx hb dX0_text_45 (by decide) ?_
        refine lv_icmp_eq (tgt := 54) hx hb dX0_text_46 (by decide) (fun c16 => ?_) (fun c16 => ?_)
        · refine lv_aload_n hx hb dX0_text_54 rfl (lv_at hl 1 rfl) ?_
          refine lv_iload_n hx hb dX0_text_55 rfl (lv_at hl 2 rfl) ?_
          refine kk_mutV (cs := dkW cA q0 q1) (ci := 0) (q0 := 0) (rest := []) ⟨hx, hb, hml, hown, hts⟩ (cD_putCharacter l D cA q0 q1 rg tt tk en ki os x1) (cwV 1 hts gX0_text_X0_putCharacter rfl rfl rfl (by decide +kernel) ⟨Nat.le_of_ble_eq_true rfl, Nat.le_of_ble_eq_true rfl⟩) hK hP hD hS rfl rfl rfl hl.1 rfl (Nat.le_of_ble_eq_true rfl) dX0_text_56 ⟨Nat.zero_le _, Nat.zero_le _⟩ (fun u17 H locs hu17 hP hS hzu17 hku17 => ?_)
          obtain ⟨rg17, tt17, tk17, en17, ki17, os17⟩ := u17
          have eu17 : (rg17, tt17, tk17, en17, ki17, os17) = dk_putC (rg, tt, tk, en, ki, os) x1 := hu17
          have hD : va_D A (dkW cA q0 q1 (rg17, tt17, tk17, en17, ki17, os17)) := kk_D_same hD rfl
          refine lv_iconst (v := 1) hx hb dX0_text_59 (by decide) ?_
          have hres : 1 = (dk_text (rg, tt, tk, en, ki, os) x1).1 := by
            subst et14 et13 et12 et1
            first | rfl | (simp only [dk_text, ← eu17, if_pos c2, if_neg (not_not_intro c3), if_pos c15, if_pos c3]; done) | (simp [dk_text, ← eu17, if_pos c2, if_neg (not_not_intro c3), if_pos c15, if_pos c3]; done)
          have hre2 : (rg17, tt17, tk17, en17, ki17, os17) = (dk_text (rg, tt, tk, en, ki, os) x1).2 := by
            subst et14 et13 et12 et1
            first | rfl | (simp only [dk_text, ← eu17, if_pos c2, if_neg (not_not_intro c3), if_pos c15, if_pos c3]; done) | (simp [dk_text, ← eu17, if_pos c2, if_neg (not_not_intro c3), if_pos c15, if_pos c3]; done)
          exact W.zret (v := 1) (ty := .boolean) hx hb hr rfl (fun t ht hW => ⟨⟨1, (rg17, tt17, tk17, en17, ki17, os17), rfl, ⟨hres, hre2⟩, by show va_P D vwCl _ t.heap; rw [ht]; exact hP⟩, hS.F ht⟩) hS.2.2 dX0_text_60
        · exact absurd c3 c16
      · refine lv_iconst (v := 0) hx hb dX0_text_39 (by decide) ?_
        have hres : 0 = (dk_text (rg, tt, tk, en, ki, os) x1).1 := by
          subst et14 et13 et12 et1
          first | rfl | (simp only [dk_text, if_pos c2, if_neg (not_not_intro c3), if_neg (not_not_intro c15)]; done) | (simp [dk_text, if_pos c2, if_neg (not_not_intro c3), if_neg (not_not_intro c15)]; done)
        have hre2 : (rg, tt, tk, en, ki, os) = (dk_text (rg, tt, tk, en, ki, os) x1).2 := by
          subst et14 et13 et12 et1
          first | rfl | (simp only [dk_text, if_pos c2, if_neg (not_not_intro c3), if_neg (not_not_intro c15)]; done) | (simp [dk_text, if_pos c2, if_neg (not_not_intro c3), if_neg (not_not_intro c15)]; done)
        exact W.zret (v := 0) (ty := .boolean) hx hb hr rfl (fun t ht hW => ⟨⟨0, (rg, tt, tk, en, ki, os), rfl, ⟨hres, hre2⟩, by show va_P D vwCl _ t.heap; rw [ht]; exact hP⟩, hS.F ht⟩) hS.2.2 dX0_text_40
  · refine lv_iconst (v := 0) hx hb dX0_text_7 (by decide) ?_
    have hres : 0 = (dk_text (rg, tt, tk, en, ki, os) x1).1 := by
      subst et1
      first | rfl | (simp only [dk_text, if_neg (not_not_intro c2)]; done) | (simp [dk_text, if_neg (not_not_intro c2)]; done)
    have hre2 : (rg, tt, tk, en, ki, os) = (dk_text (rg, tt, tk, en, ki, os) x1).2 := by
      subst et1
      first | rfl | (simp only [dk_text, if_neg (not_not_intro c2)]; done) | (simp [dk_text, if_neg (not_not_intro c2)]; done)
    exact W.zret (v := 0) (ty := .boolean) hx hb hr rfl (fun t ht hW => ⟨⟨0, (rg, tt, tk, en, ki, os), rfl, ⟨hres, hre2⟩, by show va_P D vwCl _ t.heap; rw [ht]; exact hP⟩, hS.F ht⟩) hS.2.2 dX0_text_8
set_option maxHeartbeats 4000000 in
set_option maxRecDepth 100000 in
theorem cD_end (l : Launch) (D : va_G) (cA : ClassId) (q0 q1 : Nat) (rg : Nat → Int32) (tt tk en ki os : Int32)  : dkI l yX0_end wsX0_end ({ frames := 2, cells := 0, slots := 0, locals := 42 }) D cA q0 q1 (rg, tt, tk, en, ki, os) [] (dk_end (rg, tt, tk, en, ki, os)).1 (dk_end (rg, tt, tk, en, ki, os)).2 := by
  refine kk_of (cc := cX0_end) (maxL := 2) (ret := (some .int)) (by decide) rfl (Nat.le_of_ble_eq_true rfl) ?_
  intro p e s m below meth c ls hx hb hr hts hown hlocks hml hnm hP hK hD hl
  have hown : s.vm.findClass RX0 = some m.cls := hown
  have hl : lv_has ls 2 [(0, .ref q0)] := hl
  have hin : ∀ w ∈ wsX00, w ∈ wsX0_end := by decide +kernel
  have lk23 := hts (.fieldLink RX0 23 "EventLineDesk" "openKind" "I") (by decide +kernel)
  generalize hAe : kk_A (dkW cA q0 q1 (rg, tt, tk, en, ki, os)) = A at hD ⊢
  have hS : va_S A s.heap s.heap [] := va_S.rf
  refine lv_aload_n hx hb dX0_end_0 rfl (lv_at hl 0 rfl) ?_
  refine va_get (D := D) (ci := 0) (v := .int ki) (C := RX0) (T := TX0) (N := 6) hx hb hts hin hown hK hP 0 rfl rfl 4 (by decide) lk23 (fun _ h9 => h9) rfl dX0_end_1 ?_
  refine lv_istore_n (lv' := [(1, .int ki), (0, .ref q0)]) hx hb dX0_end_4 rfl hl (by decide) rfl (fun ls hl => ?_)
  refine lv_iload_n hx hb dX0_end_5 rfl (lv_at hl 0 rfl) ?_
  refine lv_iconst (v := (-1)) hx hb dX0_end_6 (by decide) ?_
  refine lv_icmp_eq (tgt := 14) hx hb dX0_end_7 (by decide) (fun c1 => ?_) (fun c1 => ?_)
  · refine lv_iload_n hx hb dX0_end_14 rfl (lv_at hl 0 rfl) ?_
    have hres : ki = (dk_end (rg, tt, tk, en, ki, os)).1 := by
      first | rfl | (simp only [dk_end, if_pos c1]; done) | (simp [dk_end, if_pos c1]; done)
    have hre2 : (rg, tt, tk, en, ki, os) = (dk_end (rg, tt, tk, en, ki, os)).2 := by
      first | rfl | (simp only [dk_end, if_pos c1]; done) | (simp [dk_end, if_pos c1]; done)
    exact W.iret (v := ki) hx hb hr (fun t ht hW => ⟨⟨ki, (rg, tt, tk, en, ki, os), rfl, ⟨hres, hre2⟩, by show va_P D vwCl _ t.heap; rw [ht]; exact hP⟩, hS.F ht⟩) hS.2.2 dX0_end_15
  · refine lv_aload_n hx hb dX0_end_10 rfl (lv_at hl 1 rfl) ?_
    refine kk_mutV (cs := dkW cA q0 q1) (ci := 0) (q0 := 0) (rest := []) ⟨hx, hb, hml, hown, hts⟩ (cD_endLine l D cA q0 q1 rg tt tk en ki os) (cwV 0 hts gX0_end_X0_endLine rfl rfl rfl (by decide +kernel) ⟨Nat.le_of_ble_eq_true rfl, Nat.le_of_ble_eq_true rfl⟩) hK hP hD hS rfl rfl rfl hl.1 rfl (Nat.le_of_ble_eq_true rfl) dX0_end_11 ⟨Nat.zero_le _, Nat.zero_le _⟩ (fun u2 H locs hu2 hP hS hzu2 hku2 => ?_)
    obtain ⟨rg2, tt2, tk2, en2, ki2, os2⟩ := u2
    have eu2 : (rg2, tt2, tk2, en2, ki2, os2) = dk_endL (rg, tt, tk, en, ki, os) := hu2
    have hD : va_D A (dkW cA q0 q1 (rg2, tt2, tk2, en2, ki2, os2)) := kk_D_same hD rfl
    refine lv_iload_n hx hb dX0_end_14 rfl (lv_at hl 0 rfl) ?_
    have hres : ki = (dk_end (rg, tt, tk, en, ki, os)).1 := by
      first | rfl | (simp only [dk_end, ← eu2, if_neg c1]; done) | (simp [dk_end, ← eu2, if_neg c1]; done)
    have hre2 : (rg2, tt2, tk2, en2, ki2, os2) = (dk_end (rg, tt, tk, en, ki, os)).2 := by
      first | rfl | (simp only [dk_end, ← eu2, if_neg c1]; done) | (simp [dk_end, ← eu2, if_neg c1]; done)
    exact W.iret (v := ki) hx hb hr (fun t ht hW => ⟨⟨ki, (rg2, tt2, tk2, en2, ki2, os2), rfl, ⟨hres, hre2⟩, by show va_P D vwCl _ t.heap; rw [ht]; exact hP⟩, hS.F ht⟩) hS.2.2 dX0_end_15
