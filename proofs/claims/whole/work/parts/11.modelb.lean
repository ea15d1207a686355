set_option maxHeartbeats 4000000 in
set_option maxRecDepth 100000 in
theorem cM_addLoop (l : Launch) (D : va_G) (cR cY : ClassId) (m0 m1 m2 : Nat) (x1 : Int32) (r : MSt) {p : Program} {e : Env} {s : State} {m : MethodId} {below : List Frame} {meth : Method} {c : Code} {args : Array Value} {H0 : Heap} {Q : State → Prop} {A : Nat → Prop} (hx : p.tables.exec = Jvm.exec) (hb : c.code = cX1_add) (hts : ∀ x ∈ wsX1_add, x.before args s = true) (hown : s.vm.findClass RX1 = some m.cls) (hml : c.maxLocals = 3) (hK : va_K D vwCl [(cR, .int), (cY, .int)] s)
    (hex : ∀ (k : Int32) (H : Heap) (locs : List Loc) (ls : Array Slot), va_P D vwCl (mkW cR cY m0 m1 m2 r) H → va_D A (mkW cR cY m0 m1 m2 r) → va_S A H0 H locs → lv_has ls 3 [(2, .int k), (0, .ref m0), (1, .int x1)] → W p l e { frames := 1, cells := 0, slots := 0, locals := 23 } s m args below meth c H locs 0 0 Q (F0 m 68 ls [])) :
    ∀ (n j : Nat) (v : MSt) (k : Int32) (H : Heap) (locs : List Loc) (ls : Array Slot), k = nI j → v.2.2.2.2.2.2.2.2 = nI (j + n) → j + n ≤ 4 → (∃ z : Nat, v.2.1 = nI z ∧ z + n ≤ 3000) → mk_puts v k n = r → va_P D vwCl (mkW cR cY m0 m1 m2 v) H → va_D A (mkW cR cY m0 m1 m2 v) → va_S A H0 H locs → lv_has ls 3 [(2, .int k), (0, .ref m0), (1, .int x1)] → W p l e { frames := 1, cells := 0, slots := 0, locals := 23 } s m args below meth c H locs 0 0 Q (F0 m 44 ls []) := by
  have hin : ∀ w ∈ wsX10, w ∈ wsX1_add := by decide +kernel
  have lk13 := hts (.fieldLink RX1 13 "EventLineDeskModel" "kind" "I") (by decide +kernel)
  have lk23 := hts (.fieldLink RX1 23 "EventLineDeskModel" "size" "I") (by decide +kernel)
  have lk33 := hts (.fieldLink RX1 33 "EventLineDeskModel" "many" "I") (by decide +kernel)
  have lk20 := hts (.fieldLink RX1 20 "EventLineDeskModel" "bytes" "[I") (by decide +kernel)
  have lk7 := hts (.fieldLink RX1 7 "EventLineDeskModel" "row" "[I") (by decide +kernel)
  have lk26 := hts (.fieldLink RX1 26 "EventLineDeskModel" "open" "I") (by decide +kernel)
  intro n
  induction n with
  | zero =>
    intro j v k H locs ls hk hm hj hzz hr9 hP hD hS hl
    obtain ⟨ro, sz, op, kd, tk, la, li, bt, mn⟩ := v
    have hm : mn = nI (j + 0) := hm
    refine lv_iload_n hx hb dX1_add_44 rfl (lv_at hl 0 rfl) ?_
    refine lv_aload_n hx hb dX1_add_45 rfl (lv_at hl 1 rfl) ?_
    refine va_get (D := D) (ci := 1) (v := .int mn) (C := RX1) (T := TX1) (N := 9) hx hb hts hin hown hK hP 0 rfl rfl 8 (by decide) lk33 (fun _ h9 => h9) rfl dX1_add_46 ?_
    refine lv_icmp_ge (tgt := 68) hx hb dX1_add_49 (by decide) (fun c1 => ?_) (fun c1 => ?_)
    · have hr9 : (ro, sz, op, kd, tk, la, li, bt, mn) = r := hr9
      subst hr9
      exact hex k H locs ls hP hD hS hl
    · exact absurd c1 (not_not_intro (by rw [hk, hm]; exact nI_le (Nat.le_refl _) (by omega)))
  | succ n ih =>
    intro j v k H locs ls hk hm hj hzz hr9 hP hD hS hl
    obtain ⟨ro, sz, op, kd, tk, la, li, bt, mn⟩ := v
    have hm : mn = nI (j + (n + 1)) := hm
    obtain ⟨z, hz, hzn⟩ := hzz
    have hz : sz = nI z := hz
    have hvz : vp_in sz 3000 := by rw [hz]; exact vp_in_nI (by omega) (by omega)
    refine lv_iload_n hx hb dX1_add_44 rfl (lv_at hl 0 rfl) ?_
    refine lv_aload_n hx hb dX1_add_45 rfl (lv_at hl 1 rfl) ?_
    refine va_get (D := D) (ci := 1) (v := .int mn) (C := RX1) (T := TX1) (N := 9) hx hb hts hin hown hK hP 0 rfl rfl 8 (by decide) lk33 (fun _ h9 => h9) rfl dX1_add_46 ?_
    refine lv_icmp_ge (tgt := 68) hx hb dX1_add_49 (by decide) (fun c1 => ?_) (fun c1 => ?_)
    · exact absurd c1 (by rw [hk, hm]; exact nI_ge (by omega) (by omega))
    · refine lv_aload_n hx hb dX1_add_52 rfl (lv_at hl 1 rfl) ?_
      refine lv_aload_n hx hb dX1_add_53 rfl (lv_at hl 1 rfl) ?_
      refine va_get (D := D) (ci := 1) (v := .ref m2) (C := RX1) (T := TX1) (N := 9) hx hb hts hin hown hK hP 0 rfl rfl 7 (by decide) lk20 (fun _ h9 => h9) rfl dX1_add_54 ?_
      refine lv_iload_n hx hb dX1_add_57 rfl (lv_at hl 0 rfl) ?_
      refine va_iald hx hb hK hP 2 1 rfl rfl (by rw [hk]; exact vp_in_nI (by omega) (by omega)) dX1_add_58 ?_
      refine lv_topi (fun t2 et2 => ?_)
      refine kk_mutV (cs := mkW cR cY m0 m1 m2) (ci := 1) (q0 := 0) (rest := []) ⟨hx, hb, hml, hown, hts⟩ (cM_put l D cR cY m0 m1 m2 ro sz op kd tk la li bt mn t2 hvz) (cwV 1 hts gX1_add_X1_put rfl rfl rfl (by decide +kernel) ⟨Nat.le_of_ble_eq_true rfl, Nat.le_of_ble_eq_true rfl⟩) hK hP hD hS rfl rfl rfl hl.1 rfl (Nat.le_of_ble_eq_true rfl) dX1_add_59 ⟨Nat.zero_le _, Nat.zero_le _⟩ (fun u3 H locs hu3 hP hS hzu3 hku3 => ?_)
      obtain ⟨ro3, sz3, op3, kd3, tk3, la3, li3, bt3, mn3⟩ := u3
      have eu3 : (ro3, sz3, op3, kd3, tk3, la3, li3, bt3, mn3) = mk_put (ro, sz, op, kd, tk, la, li, bt, mn) t2 := hu3
      have hD : va_D A (mkW cR cY m0 m1 m2 (ro3, sz3, op3, kd3, tk3, la3, li3, bt3, mn3)) := kk_D_same hD rfl
      obtain ⟨t4, et4⟩ : ∃ y : Int32, y = k + 1 := ⟨_, rfl⟩
      refine lv_iinc (v := t4) (lv' := [(2, .int t4), (0, .ref m0), (1, .int x1)]) hx hb dX1_add_62 hl (k := 0) rfl (by rw [et4]; rfl) (by decide) rfl (fun ls hl => ?_)
      refine lv_goto (tgt := 44) hx hb dX1_add_65 (by decide) ?_
      refine ih (j + 1) (ro3, sz3, op3, kd3, tk3, la3, li3, bt3, mn3) t4 H locs ls (by rw [et4, hk]; exact nI_1 j) ?_ (by omega) ?_ ?_ hP hD hS (lv_sub hl [0, 1, 2] rfl)
      · show mn3 = nI (j + 1 + n)
        rw [show mn3 = mn from congrArg (fun z : MSt => z.2.2.2.2.2.2.2.2) eu3, hm]
        congr 1
        omega
      · refine ⟨z + 1, ?_, by omega⟩
        show sz3 = nI (z + 1)
        rw [show sz3 = sz + 1 from congrArg (fun z : MSt => z.2.1) eu3, hz]
        exact nI_1 z
      · rw [← hr9]
        subst et4 et2
        rw [eu3]
        rfl
set_option maxHeartbeats 4000000 in
set_option maxRecDepth 100000 in
theorem cM_add (l : Launch) (D : va_G) (cR cY : ClassId) (m0 m1 m2 : Nat) (ro : Nat → Int32) (sz op kd tk la li : Int32) (bt : Nat → Int32) (mn : Int32) (x1 : Int32) (hz : mk_ok sz) : mkI l yX1_add wsX1_add ({ frames := 1, cells := 0, slots := 0, locals := 23 }) D cR cY m0 m1 m2 (ro, sz, op, kd, tk, la, li, bt, mn) [.int x1] (mk_add (ro, sz, op, kd, tk, la, li, bt, mn) x1).1 (mk_add (ro, sz, op, kd, tk, la, li, bt, mn) x1).2 := by
  refine kk_of (cc := cX1_add) (maxL := 3) (ret := (some .boolean)) (by decide) rfl (Nat.le_of_ble_eq_true rfl) ?_
  intro p e s m below meth c ls hx hb hr hts hown hlocks hml hnm hP hK hD hl
  have hown : s.vm.findClass RX1 = some m.cls := hown
  have hl : lv_has ls 3 [(0, .ref m0), (1, .int x1)] := hl
  have hin : ∀ w ∈ wsX10, w ∈ wsX1_add := by decide +kernel
  have lk13 := hts (.fieldLink RX1 13 "EventLineDeskModel" "kind" "I") (by decide +kernel)
  have lk23 := hts (.fieldLink RX1 23 "EventLineDeskModel" "size" "I") (by decide +kernel)
  have lk33 := hts (.fieldLink RX1 33 "EventLineDeskModel" "many" "I") (by decide +kernel)
  have lk20 := hts (.fieldLink RX1 20 "EventLineDeskModel" "bytes" "[I") (by decide +kernel)
  generalize hAe : kk_A (mkW cR cY m0 m1 m2 (ro, sz, op, kd, tk, la, li, bt, mn)) = A at hD ⊢
  have hS : va_S A s.heap s.heap [] := va_S.rf
  refine lv_aload_n hx hb dX1_add_0 rfl (lv_at hl 0 rfl) ?_
  refine va_get (D := D) (ci := 1) (v := .int kd) (C := RX1) (T := TX1) (N := 9) hx hb hts hin hown hK hP 0 rfl rfl 3 (by decide) lk13 (fun _ h9 => h9) rfl dX1_add_1 ?_
  refine lv_if_lt (tgt := 40) hx hb dX1_add_4 (by decide) (fun c1 => ?_) (fun c1 => ?_)
  · refine lv_iconst (v := 0) hx hb dX1_add_40 (by decide) ?_
    have hres : 0 = (mk_add (ro, sz, op, kd, tk, la, li, bt, mn) x1).1 := by
      first | rfl | (simp only [mk_add, mk_add2, if_pos c1]; done) | (simp [mk_add, mk_add2, if_pos c1]; done)
    have hre2 : (ro, sz, op, kd, tk, la, li, bt, mn) = (mk_add (ro, sz, op, kd, tk, la, li, bt, mn) x1).2 := by
      first | rfl | (simp only [mk_add, mk_add2, if_pos c1]; done) | (simp [mk_add, mk_add2, if_pos c1]; done)
    exact W.zret (v := 0) (ty := .boolean) hx hb hr rfl (fun t ht hW => ⟨⟨0, (ro, sz, op, kd, tk, la, li, bt, mn), rfl, ⟨hres, hre2⟩, by show va_P D vwCl _ t.heap; rw [ht]; exact hP⟩, hS.F ht⟩) hS.2.2 dX1_add_41
  · refine lv_aload_n hx hb dX1_add_7 rfl (lv_at hl 0 rfl) ?_
    refine va_get (D := D) (ci := 1) (v := .int kd) (C := RX1) (T := TX1) (N := 9) hx hb hts hin hown hK hP 0 rfl rfl 3 (by decide) lk13 (fun _ h9 => h9) rfl dX1_add_8 ?_
    refine lv_iconst (v := 4) hx hb dX1_add_11 (by decide) ?_
    refine lv_icmp_eq (tgt := 40) hx hb dX1_add_12 (by decide) (fun c2 => ?_) (fun c2 => ?_)
    · refine lv_iconst (v := 0) hx hb dX1_add_40 (by decide) ?_
      have hres : 0 = (mk_add (ro, sz, op, kd, tk, la, li, bt, mn) x1).1 := by
        first | rfl | (simp only [mk_add, mk_add2, if_neg c1, if_pos c2]; done) | (simp [mk_add, mk_add2, if_neg c1, if_pos c2]; done)
      have hre2 : (ro, sz, op, kd, tk, la, li, bt, mn) = (mk_add (ro, sz, op, kd, tk, la, li, bt, mn) x1).2 := by
        first | rfl | (simp only [mk_add, mk_add2, if_neg c1, if_pos c2]; done) | (simp [mk_add, mk_add2, if_neg c1, if_pos c2]; done)
      exact W.zret (v := 0) (ty := .boolean) hx hb hr rfl (fun t ht hW => ⟨⟨0, (ro, sz, op, kd, tk, la, li, bt, mn), rfl, ⟨hres, hre2⟩, by show va_P D vwCl _ t.heap; rw [ht]; exact hP⟩, hS.F ht⟩) hS.2.2 dX1_add_41
    · refine lv_aload_n hx hb dX1_add_15 rfl (lv_at hl 0 rfl) ?_
      refine lv_iload_n hx hb dX1_add_16 rfl (lv_at hl 1 rfl) ?_
      refine kk_mutI (cs := mkW cR cY m0 m1 m2) (ci := 1) (q0 := 0) (rest := []) ⟨hx, hb, hml, hown, hts⟩ (cM_code l D cR cY m0 m1 m2 ro sz op kd tk la li bt mn x1) (cwV 1 hts gX1_add_X1_code rfl rfl rfl (by decide +kernel) ⟨Nat.le_of_ble_eq_true rfl, Nat.le_of_ble_eq_true rfl⟩) hK hP hD hS rfl rfl rfl hl.1 rfl (Nat.le_of_ble_eq_true rfl) dX1_add_17 ⟨Nat.zero_le _, Nat.zero_le _⟩ (fun r4 u3 H locs hu3 hP hS hzu3 hku3 => ?_)
      obtain ⟨ro3, sz3, op3, kd3, tk3, la3, li3, bt3, mn3⟩ := u3
      have eu3 : (ro3, sz3, op3, kd3, tk3, la3, li3, bt3, mn3) = (mk_code (ro, sz, op, kd, tk, la, li, bt, mn) x1).2 := hu3.2
      have er4 : r4 = (mk_code (ro, sz, op, kd, tk, la, li, bt, mn) x1).1 := hu3.1
      have hD : va_D A (mkW cR cY m0 m1 m2 (ro3, sz3, op3, kd3, tk3, la3, li3, bt3, mn3)) := kk_D_same hD rfl
      refine lv_if_eq (tgt := 40) hx hb dX1_add_20 (by decide) (fun c5 => ?_) (fun c5 => ?_)
      · refine lv_iconst (v := 0) hx hb dX1_add_40 (by decide) ?_
        have hres : 0 = (mk_add (ro, sz, op, kd, tk, la, li, bt, mn) x1).1 := by
          subst er4
          first | rfl | (simp only [mk_add, mk_add2, ← eu3, if_neg c1, if_neg c2, if_pos c5]; done) | (simp [mk_add, mk_add2, ← eu3, if_neg c1, if_neg c2, if_pos c5]; done)
        have hre2 : (ro3, sz3, op3, kd3, tk3, la3, li3, bt3, mn3) = (mk_add (ro, sz, op, kd, tk, la, li, bt, mn) x1).2 := by
          subst er4
          first | rfl | (simp only [mk_add, mk_add2, ← eu3, if_neg c1, if_neg c2, if_pos c5]; done) | (simp [mk_add, mk_add2, ← eu3, if_neg c1, if_neg c2, if_pos c5]; done)
        exact W.zret (v := 0) (ty := .boolean) hx hb hr rfl (fun t ht hW => ⟨⟨0, (ro3, sz3, op3, kd3, tk3, la3, li3, bt3, mn3), rfl, ⟨hres, hre2⟩, by show va_P D vwCl _ t.heap; rw [ht]; exact hP⟩, hS.F ht⟩) hS.2.2 dX1_add_41
      · refine lv_aload_n hx hb dX1_add_23 rfl (lv_at hl 0 rfl) ?_
        refine va_get (D := D) (ci := 1) (v := .int sz3) (C := RX1) (T := TX1) (N := 9) hx hb hts hin hown hK hP 0 rfl rfl 1 (by decide) lk23 (fun _ h9 => h9) rfl dX1_add_24 ?_
        refine lv_aload_n hx hb dX1_add_27 rfl (lv_at hl 0 rfl) ?_
        refine va_get (D := D) (ci := 1) (v := .int mn3) (C := RX1) (T := TX1) (N := 9) hx hb hts hin hown hK hP 0 rfl rfl 8 (by decide) lk33 (fun _ h9 => h9) rfl dX1_add_28 ?_
        refine lv_iadd hx hb dX1_add_31 ?_
        refine lv_topi (fun t6 et6 => ?_)
        refine lv_iconst (v := 1) hx hb dX1_add_32 (by decide) ?_
        refine lv_iadd hx hb dX1_add_33 ?_
        refine lv_topi (fun t7 et7 => ?_)
        refine lv_sipush (v := 3000) hx hb dX1_add_34 (by decide) ?_
        refine lv_icmp_le (tgt := 42) hx hb dX1_add_37 (by decide) (fun c8 => ?_) (fun c8 => ?_)
        · refine lv_iconst (v := 0) hx hb dX1_add_42 (by decide) ?_
          refine lv_istore_n (lv' := [(2, .int 0), (0, .ref m0), (1, .int x1)]) hx hb dX1_add_43 rfl hl (by decide) rfl (fun ls hl => ?_)
          obtain ⟨zz, hz1, hz2⟩ := hz
          have hq : sz3 = sz ∧ ∃ n : Nat, n ≤ 4 ∧ mn3 = nI n := by
            rcases mk_code_many (ro, sz, op, kd, tk, la, li, bt, mn) x1 with h | ⟨f, n, h1, h2⟩
            · exact absurd (by rw [er4, h]) c5
            · rw [h2] at eu3
              exact ⟨congrArg (fun z : MSt => z.2.1) eu3, n, h1, congrArg (fun z : MSt => z.2.2.2.2.2.2.2.2) eu3⟩
          obtain ⟨hq1, n, hn, hq2⟩ := hq
          have hb9 : zz + n + 1 ≤ 3000 := by
            have h := c8
            rw [et7, et6, hq1, hz1, hq2, nI_add, nI_1] at h
            exact (nI_leI (b := 3000) (by omega) (by omega)).mp h
          have hpl : mk_pall (ro3, sz3, op3, kd3, tk3, la3, li3, bt3, mn3) = mk_puts (ro3, sz3, op3, kd3, tk3, la3, li3, bt3, mn3) 0 n := by show mk_puts (ro3, sz3, op3, kd3, tk3, la3, li3, bt3, mn3) 0 (mn3).toNatClampNeg = _; rw [hq2, nI_clamp (by omega)]
          refine cM_addLoop l D cR cY m0 m1 m2 x1 (mk_pall (ro3, sz3, op3, kd3, tk3, la3, li3, bt3, mn3)) hx hb hts hown hml hK (fun k H locs ls hP hD hS hl => ?_) n 0 (ro3, sz3, op3, kd3, tk3, la3, li3, bt3, mn3) 0 H locs ls nI_0.symm (by rw [Nat.zero_add]; exact hq2) (by omega) ⟨zz, by rw [← hz1]; exact hq1, by omega⟩ hpl.symm hP hD hS (lv_sub hl [0, 1, 2] rfl)
          obtain ⟨w9, ew9⟩ : ∃ w : MSt, w = mk_pall (ro3, sz3, op3, kd3, tk3, la3, li3, bt3, mn3) := ⟨_, rfl⟩
          rw [← ew9] at hP hD
          obtain ⟨ro9, sz9, op9, kd9, tk9, la9, li9, bt9, mn9⟩ := w9
          refine lv_iconst (v := 1) hx hb dX1_add_68 (by decide) ?_
          have hres : 1 = (mk_add (ro, sz, op, kd, tk, la, li, bt, mn) x1).1 := by
            subst et7 et6 er4
            first | rfl | (simp only [mk_add, mk_add2, ← eu3, ← ew9, if_neg c1, if_neg c2, if_neg c5, if_pos c8]; done) | (simp [mk_add, mk_add2, ← eu3, ← ew9, if_neg c1, if_neg c2, if_neg c5, if_pos c8]; done)
          have hre2 : (ro9, sz9, op9, kd9, tk9, la9, li9, bt9, mn9) = (mk_add (ro, sz, op, kd, tk, la, li, bt, mn) x1).2 := by
            subst et7 et6 er4
            first | rfl | (simp only [mk_add, mk_add2, ← eu3, ← ew9, if_neg c1, if_neg c2, if_neg c5, if_pos c8]; done) | (simp [mk_add, mk_add2, ← eu3, ← ew9, if_neg c1, if_neg c2, if_neg c5, if_pos c8]; done)
          exact W.zret (v := 1) (ty := .boolean) hx hb hr rfl (fun t ht hW => ⟨⟨1, (ro9, sz9, op9, kd9, tk9, la9, li9, bt9, mn9), rfl, ⟨hres, hre2⟩, by show va_P D vwCl _ t.heap; rw [ht]; exact hP⟩, hS.F ht⟩) hS.2.2 dX1_add_69
        · refine lv_iconst (v := 0) hx hb dX1_add_40 (by decide) ?_
          have hres : 0 = (mk_add (ro, sz, op, kd, tk, la, li, bt, mn) x1).1 := by
            subst et7 et6 er4
            first | rfl | (simp only [mk_add, mk_add2, ← eu3, if_neg c1, if_neg c2, if_neg c5, if_neg c8]; done) | (simp [mk_add, mk_add2, ← eu3, if_neg c1, if_neg c2, if_neg c5, if_neg c8]; done)
          have hre2 : (ro3, sz3, op3, kd3, tk3, la3, li3, bt3, mn3) = (mk_add (ro, sz, op, kd, tk, la, li, bt, mn) x1).2 := by
            subst et7 et6 er4
            first | rfl | (simp only [mk_add, mk_add2, ← eu3, if_neg c1, if_neg c2, if_neg c5, if_neg c8]; done) | (simp [mk_add, mk_add2, ← eu3, if_neg c1, if_neg c2, if_neg c5, if_neg c8]; done)
          exact W.zret (v := 0) (ty := .boolean) hx hb hr rfl (fun t ht hW => ⟨⟨0, (ro3, sz3, op3, kd3, tk3, la3, li3, bt3, mn3), rfl, ⟨hres, hre2⟩, by show va_P D vwCl _ t.heap; rw [ht]; exact hP⟩, hS.F ht⟩) hS.2.2 dX1_add_41
set_option maxHeartbeats 4000000 in
set_option maxRecDepth 100000 in
theorem cM_textLoop (l : Launch) (D : va_G) (cR cY : ClassId) (m0 m1 m2 : Nat) (x1 : Int32) (x2 : Int32) (r : MSt) {p : Program} {e : Env} {s : State} {m : MethodId} {below : List Frame} {meth : Method} {c : Code} {args : Array Value} {H0 : Heap} {Q : State → Prop} {A : Nat → Prop} (hx : p.tables.exec = Jvm.exec) (hb : c.code = cX1_text) (hts : ∀ x ∈ wsX1_text, x.before args s = true) (hown : s.vm.findClass RX1 = some m.cls) (hml : c.maxLocals = 4) (hK : va_K D vwCl [(cR, .int), (cY, .int)] s)
    (hex : ∀ (k : Int32) (H : Heap) (locs : List Loc) (ls : Array Slot), va_P D vwCl (mkW cR cY m0 m1 m2 r) H → va_D A (mkW cR cY m0 m1 m2 r) → va_S A H0 H locs → lv_has ls 4 [(3, .int k), (0, .ref m0), (1, .int x1), (2, .int x2)] → W p l e { frames := 2, cells := 0, slots := 0, locals := 42 } s m args below meth c H locs 0 0 Q (F0 m 95 ls [])) :
    ∀ (n j : Nat) (v : MSt) (k : Int32) (H : Heap) (locs : List Loc) (ls : Array Slot), k = nI j → v.2.2.2.2.2.2.2.2 = nI (j + n) → j + n ≤ 4 → (∃ z : Nat, v.2.1 = nI z ∧ z + n ≤ 3000) → mk_puts v k n = r → va_P D vwCl (mkW cR cY m0 m1 m2 v) H → va_D A (mkW cR cY m0 m1 m2 v) → va_S A H0 H locs → lv_has ls 4 [(3, .int k), (0, .ref m0), (1, .int x1), (2, .int x2)] → W p l e { frames := 2, cells := 0, slots := 0, locals := 42 } s m args below meth c H locs 0 0 Q (F0 m 71 ls []) := by
  have hin : ∀ w ∈ wsX10, w ∈ wsX1_text := by decide +kernel
  have lk13 := hts (Cond.fieldLink RX1 13 "EventLineDeskModel" "kind" "I") (by decide +kernel)
  have lk23 := hts (Cond.fieldLink RX1 23 "EventLineDeskModel" "size" "I") (by decide +kernel)
  have lk33 := hts (Cond.fieldLink RX1 33 "EventLineDeskModel" "many" "I") (by decide +kernel)
  have lk20 := hts (Cond.fieldLink RX1 20 "EventLineDeskModel" "bytes" "[I") (by decide +kernel)
  have lk7 := hts (Cond.fieldLink RX1 7 "EventLineDeskModel" "row" "[I") (by decide +kernel)
  have lk26 := hts (Cond.fieldLink RX1 26 "EventLineDeskModel" "open" "I") (by decide +kernel)
  intro n
  induction n with
  | zero =>
    intro j v k H locs ls hk hm hj hzz hr9 hP hD hS hl
    obtain ⟨ro, sz, op, kd, tk, la, li, bt, mn⟩ := v
    have hm : mn = nI (j + 0) := hm
    refine lv_iload_n hx hb dX1_text_71 rfl (lv_at hl 0 rfl) ?_
    refine lv_aload_n hx hb dX1_text_72 rfl (lv_at hl 1 rfl) ?_
    refine va_get (D := D) (ci := 1) (v := .int mn) (C := RX1) (T := TX1) (N := 9) hx hb hts hin hown hK hP 0 rfl rfl 8 (by decide) lk33 (fun _ h9 => h9) rfl dX1_text_73 ?_
    refine lv_icmp_ge (tgt := 95) hx hb dX1_text_76 (by decide) (fun c1 => ?_) (fun c1 => ?_)
    · have hr9 : (ro, sz, op, kd, tk, la, li, bt, mn) = r := hr9
      subst hr9
      exact hex k H locs ls hP hD hS hl
    · exact absurd c1 (not_not_intro (by rw [hk, hm]; exact nI_le (Nat.le_refl _) (by omega)))
  | succ n ih =>
    intro j v k H locs ls hk hm hj hzz hr9 hP hD hS hl
    obtain ⟨ro, sz, op, kd, tk, la, li, bt, mn⟩ := v
    have hm : mn = nI (j + (n + 1)) := hm
    obtain ⟨z, hz, hzn⟩ := hzz
    have hz : sz = nI z := hz
    have hvz : vp_in sz 3000 := by rw [hz]; exact vp_in_nI (by omega) (by omega)
    refine lv_iload_n hx hb dX1_text_71 rfl (lv_at hl 0 rfl) ?_
    refine lv_aload_n hx hb dX1_text_72 rfl (lv_at hl 1 rfl) ?_
    refine va_get (D := D) (ci := 1) (v := .int mn) (C := RX1) (T := TX1) (N := 9) hx hb hts hin hown hK hP 0 rfl rfl 8 (by decide) lk33 (fun _ h9 => h9) rfl dX1_text_73 ?_
    refine lv_icmp_ge (tgt := 95) hx hb dX1_text_76 (by decide) (fun c1 => ?_) (fun c1 => ?_)
    · exact absurd c1 (by rw [hk, hm]; exact nI_ge (by omega) (by omega))
    · refine lv_aload_n hx hb dX1_text_79 rfl (lv_at hl 1 rfl) ?_
      refine lv_aload_n hx hb dX1_text_80 rfl (lv_at hl 1 rfl) ?_
      refine va_get (D := D) (ci := 1) (v := .ref m2) (C := RX1) (T := TX1) (N := 9) hx hb hts hin hown hK hP 0 rfl rfl 7 (by decide) lk20 (fun _ h9 => h9) rfl dX1_text_81 ?_
      refine lv_iload_n hx hb dX1_text_84 rfl (lv_at hl 0 rfl) ?_
      refine va_iald hx hb hK hP 2 1 rfl rfl (by rw [hk]; exact vp_in_nI (by omega) (by omega)) dX1_text_85 ?_
      refine lv_topi (fun t2 et2 => ?_)
      refine kk_mutV (cs := mkW cR cY m0 m1 m2) (ci := 1) (q0 := 0) (rest := []) ⟨hx, hb, hml, hown, hts⟩ (cM_put l D cR cY m0 m1 m2 ro sz op kd tk la li bt mn t2 hvz) (cwV 1 hts gX1_text_X1_put rfl rfl rfl (by decide +kernel) ⟨Nat.le_of_ble_eq_true rfl, Nat.le_of_ble_eq_true rfl⟩) hK hP hD hS rfl rfl rfl hl.1 rfl (Nat.le_of_ble_eq_true rfl) dX1_text_86 ⟨Nat.zero_le _, Nat.zero_le _⟩ (fun u3 H locs hu3 hP hS hzu3 hku3 => ?_)
      obtain ⟨ro3, sz3, op3, kd3, tk3, la3, li3, bt3, mn3⟩ := u3
      have eu3 : (ro3, sz3, op3, kd3, tk3, la3, li3, bt3, mn3) = mk_put (ro, sz, op, kd, tk, la, li, bt, mn) t2 := hu3
      have hD : va_D A (mkW cR cY m0 m1 m2 (ro3, sz3, op3, kd3, tk3, la3, li3, bt3, mn3)) := kk_D_same hD rfl
      obtain ⟨t4, et4⟩ : ∃ y : Int32, y = k + 1 := ⟨_, rfl⟩
      refine lv_iinc (v := t4) (lv' := [(3, .int t4), (0, .ref m0), (1, .int x1), (2, .int x2)]) hx hb dX1_text_89 hl (k := 0) rfl (by rw [et4]; rfl) (by decide) rfl (fun ls hl => ?_)
      refine lv_goto (tgt := 71) hx hb dX1_text_92 (by decide) ?_
      refine ih (j + 1) (ro3, sz3, op3, kd3, tk3, la3, li3, bt3, mn3) t4 H locs ls (by rw [et4, hk]; exact nI_1 j) ?_ (by omega) ?_ ?_ hP hD hS (lv_sub hl [0, 1, 2, 3] rfl)
      · show mn3 = nI (j + 1 + n)
        rw [show mn3 = mn from congrArg (fun z : MSt => z.2.2.2.2.2.2.2.2) eu3, hm]
        congr 1
        omega
      · refine ⟨z + 1, ?_, by omega⟩
        show sz3 = nI (z + 1)
        rw [show sz3 = sz + 1 from congrArg (fun z : MSt => z.2.1) eu3, hz]
        exact nI_1 z
      · rw [← hr9]
        subst et4 et2
        rw [eu3]
        rfl
set_option maxHeartbeats 4000000 in
set_option maxRecDepth 100000 in
theorem cM_text (l : Launch) (D : va_G) (cR cY : ClassId) (m0 m1 m2 : Nat) (ro : Nat → Int32) (sz op kd tk la li : Int32) (bt : Nat → Int32) (mn : Int32) (x1 : Int32) (hz : mk_ok sz) : mkI l yX1_text wsX1_text ({ frames := 2, cells := 0, slots := 0, locals := 42 }) D cR cY m0 m1 m2 (ro, sz, op, kd, tk, la, li, bt, mn) [.int x1] (mk_text (ro, sz, op, kd, tk, la, li, bt, mn) x1).1 (mk_text (ro, sz, op, kd, tk, la, li, bt, mn) x1).2 := by
  refine kk_of (cc := cX1_text) (maxL := 4) (ret := (some .boolean)) (by decide) rfl (Nat.le_of_ble_eq_true rfl) ?_
  intro p e s m below meth c ls hx hb hr hts hown hlocks hml hnm hP hK hD hl
  have hown : s.vm.findClass RX1 = some m.cls := hown
  have hl : lv_has ls 4 [(0, .ref m0), (1, .int x1)] := hl
  have hin : ∀ w ∈ wsX10, w ∈ wsX1_text := by decide +kernel
  have lk13 := hts (Cond.fieldLink RX1 13 "EventLineDeskModel" "kind" "I") (by decide +kernel)
  have lk23 := hts (Cond.fieldLink RX1 23 "EventLineDeskModel" "size" "I") (by decide +kernel)
  have lk33 := hts (Cond.fieldLink RX1 33 "EventLineDeskModel" "many" "I") (by decide +kernel)
  have lk20 := hts (Cond.fieldLink RX1 20 "EventLineDeskModel" "bytes" "[I") (by decide +kernel)
  generalize hAe : kk_A (mkW cR cY m0 m1 m2 (ro, sz, op, kd, tk, la, li, bt, mn)) = A at hD ⊢
  have hS : va_S A s.heap s.heap [] := va_S.rf
  refine lv_aload_n hx hb dX1_text_0 rfl (lv_at hl 0 rfl) ?_
  refine lv_iload_n hx hb dX1_text_1 rfl (lv_at hl 1 rfl) ?_
  refine kk_mutI (cs := mkW cR cY m0 m1 m2) (ci := 1) (q0 := 0) (rest := []) ⟨hx, hb, hml, hown, hts⟩ (cM_code l D cR cY m0 m1 m2 ro sz op kd tk la li bt mn x1) (cwV 1 hts gX1_text_X1_code rfl rfl rfl (by decide +kernel) ⟨Nat.le_of_ble_eq_true rfl, Nat.le_of_ble_eq_true rfl⟩) hK hP hD hS rfl rfl rfl hl.1 rfl (Nat.le_of_ble_eq_true rfl) dX1_text_2 ⟨Nat.zero_le _, Nat.zero_le _⟩ (fun r2 u1 H locs hu1 hP hS hzu1 hku1 => ?_)
  obtain ⟨ro1, sz1, op1, kd1, tk1, la1, li1, bt1, mn1⟩ := u1
  have eu1 : (ro1, sz1, op1, kd1, tk1, la1, li1, bt1, mn1) = (mk_code (ro, sz, op, kd, tk, la, li, bt, mn) x1).2 := hu1.2
  have er2 : r2 = (mk_code (ro, sz, op, kd, tk, la, li, bt, mn) x1).1 := hu1.1
  have hD : va_D A (mkW cR cY m0 m1 m2 (ro1, sz1, op1, kd1, tk1, la1, li1, bt1, mn1)) := kk_D_same hD rfl
  refine lv_if_ne (tgt := 10) hx hb dX1_text_5 (by decide) (fun c3 => ?_) (fun c3 => ?_)
  · refine lv_aload_n hx hb dX1_text_10 rfl (lv_at hl 0 rfl) ?_
    refine va_get (D := D) (ci := 1) (v := .int kd1) (C := RX1) (T := TX1) (N := 9) hx hb hts hin hown hK hP 0 rfl rfl 3 (by decide) lk13 (fun _ h9 => h9) rfl dX1_text_11 ?_
    refine lv_iconst (v := 4) hx hb dX1_text_14 (by decide) ?_
    refine lv_icmp_ne (tgt := 22) hx hb dX1_text_15 (by decide) (fun c4 => ?_) (fun c4 => ?_)
    · refine lv_aload_n hx hb dX1_text_22 rfl (lv_at hl 0 rfl) ?_
      refine va_get (D := D) (ci := 1) (v := .int kd1) (C := RX1) (T := TX1) (N := 9) hx hb hts hin hown hK hP 0 rfl rfl 3 (by decide) lk13 (fun _ h9 => h9) rfl dX1_text_23 ?_
      refine lv_if_lt (tgt := 33) hx hb dX1_text_26 (by decide) (fun c5 => ?_) (fun c5 => ?_)
      · refine lv_iconst (v := 1) hx hb dX1_text_33 (by decide) ?_
        refine lv_istore_n (lv' := [(2, .int 1), (0, .ref m0), (1, .int x1)]) hx hb dX1_text_34 rfl hl (by decide) rfl (fun ls hl => ?_)
        refine lv_aload_n hx hb dX1_text_35 rfl (lv_at hl 1 rfl) ?_
        refine va_get (D := D) (ci := 1) (v := .int sz1) (C := RX1) (T := TX1) (N := 9) hx hb hts hin hown hK hP 0 rfl rfl 1 (by decide) lk23 (fun _ h9 => h9) rfl dX1_text_36 ?_
        refine lv_iload_n hx hb dX1_text_39 rfl (lv_at hl 0 rfl) ?_
        refine lv_iadd hx hb dX1_text_40 ?_
        refine lv_topi (fun t6 et6 => ?_)
        refine lv_aload_n hx hb dX1_text_41 rfl (lv_at hl 1 rfl) ?_
        refine va_get (D := D) (ci := 1) (v := .int mn1) (C := RX1) (T := TX1) (N := 9) hx hb hts hin hown hK hP 0 rfl rfl 8 (by decide) lk33 (fun _ h9 => h9) rfl dX1_text_42 ?_
        refine lv_iadd hx hb dX1_text_45 ?_
        refine lv_topi (fun t7 et7 => ?_)
        refine lv_iconst (v := 1) hx hb dX1_text_46 (by decide) ?_
        refine lv_iadd hx hb dX1_text_47 ?_
        refine lv_topi (fun t8 et8 => ?_)
        refine lv_sipush (v := 3000) hx hb dX1_text_48 (by decide) ?_
        refine lv_icmp_le (tgt := 56) hx hb dX1_text_51 (by decide) (fun c9 => ?_) (fun c9 => ?_)
        · refine lv_aload_n hx hb dX1_text_56 rfl (lv_at hl 1 rfl) ?_
          refine va_get (D := D) (ci := 1) (v := .int kd1) (C := RX1) (T := TX1) (N := 9) hx hb hts hin hown hK hP 0 rfl rfl 3 (by decide) lk13 (fun _ h9 => h9) rfl dX1_text_57 ?_
          refine lv_iconst (v := 4) hx hb dX1_text_60 (by decide) ?_
          refine lv_icmp_eq (tgt := 69) hx hb dX1_text_61 (by decide) (fun c10 => ?_) (fun c10 => ?_)
          · exact absurd c10 c4
          · refine lv_aload_n hx hb dX1_text_64 rfl (lv_at hl 1 rfl) ?_
            refine lv_iconst (v := 4) hx hb dX1_text_65 (by decide) ?_
            obtain ⟨zz, hz1, hz2⟩ := hz
            have hq : sz1 = sz ∧ ∃ n : Nat, n ≤ 4 ∧ mn1 = nI n := by
              rcases mk_code_many (ro, sz, op, kd, tk, la, li, bt, mn) x1 with h | ⟨f, n, h1, h2⟩
              · exact absurd (by rw [er2, h]) c3
              · rw [h2] at eu1
                exact ⟨congrArg (fun z : MSt => z.2.1) eu1, n, h1, congrArg (fun z : MSt => z.2.2.2.2.2.2.2.2) eu1⟩
            obtain ⟨hq1, n, hn, hq2⟩ := hq
            have hb9 : zz + 1 + n + 1 ≤ 3000 := by
              have h : nI zz + nI 1 + nI n + nI 1 ≤ nI 3000 := by
                have h := c9
                rw [et8, et7, et6, hq1, hz1, hq2] at h
                exact h
              rw [nI_add, nI_add, nI_add] at h
              exact (nI_leI (by omega) (by omega)).mp h
            have hzz : sz1 = nI zz := hq1.trans hz1
            refine kk_mutV (cs := mkW cR cY m0 m1 m2) (ci := 1) (q0 := 0) (rest := []) ⟨hx, hb, hml, hown, hts⟩ (cM_start l D cR cY m0 m1 m2 ro1 sz1 op1 kd1 tk1 la1 li1 bt1 mn1 4 (fun _ => by rw [hzz]; exact vp_in_nI (by omega) (by omega)) (fun h => absurd c5 h)) (cwV 1 hts gX1_text_X1_start rfl rfl rfl (by decide +kernel) ⟨Nat.le_of_ble_eq_true rfl, Nat.le_of_ble_eq_true rfl⟩) hK hP hD hS rfl rfl rfl hl.1 rfl (Nat.le_of_ble_eq_true rfl) dX1_text_66 ⟨Nat.zero_le _, Nat.zero_le _⟩ (fun u11 H locs hu11 hP hS hzu11 hku11 => ?_)
            obtain ⟨ro11, sz11, op11, kd11, tk11, la11, li11, bt11, mn11⟩ := u11
            have eu11 : (ro11, sz11, op11, kd11, tk11, la11, li11, bt11, mn11) = mk_start (ro1, sz1, op1, kd1, tk1, la1, li1, bt1, mn1) 4 := hu11
            have hD : va_D A (mkW cR cY m0 m1 m2 (ro11, sz11, op11, kd11, tk11, la11, li11, bt11, mn11)) := kk_D_same hD rfl
            refine lv_iconst (v := 0) hx hb dX1_text_69 (by decide) ?_
            refine lv_istore_n (lv' := [(3, .int 0), (2, .int 1), (0, .ref m0), (1, .int x1)]) hx hb dX1_text_70 rfl hl (by decide) rfl (fun ls hl => ?_)
            have hsf := mk_start_f (ro1, sz1, op1, kd1, tk1, la1, li1, bt1, mn1) 4
            rw [← eu11] at hsf
            have hqs : sz11 = nI (zz + 1) := by rw [show sz11 = sz1 + 1 from hsf.1 c5, hq1, hz1]; exact nI_1 zz
            have hqm : mn11 = nI n := by rw [show mn11 = mn1 from hsf.2.2]; exact hq2
            have hpl : mk_pall (ro11, sz11, op11, kd11, tk11, la11, li11, bt11, mn11) = mk_puts (ro11, sz11, op11, kd11, tk11, la11, li11, bt11, mn11) 0 n := by show mk_puts (ro11, sz11, op11, kd11, tk11, la11, li11, bt11, mn11) 0 (mn11).toNatClampNeg = _; rw [hqm, nI_clamp (by omega)]
            refine cM_textLoop l D cR cY m0 m1 m2 x1 1 (mk_pall (ro11, sz11, op11, kd11, tk11, la11, li11, bt11, mn11)) hx hb hts hown hml hK (fun k H locs ls hP hD hS hl => ?_) n 0 (ro11, sz11, op11, kd11, tk11, la11, li11, bt11, mn11) 0 H locs ls nI_0.symm (by rw [Nat.zero_add]; exact hqm) (by omega) ⟨(zz + 1), hqs, by omega⟩ hpl.symm hP hD hS (lv_sub hl [0, 2, 3, 1] rfl)
            obtain ⟨w12, ew12⟩ : ∃ w : MSt, w = mk_pall (ro11, sz11, op11, kd11, tk11, la11, li11, bt11, mn11) := ⟨_, rfl⟩
            rw [← ew12] at hP hD
            obtain ⟨ro12, sz12, op12, kd12, tk12, la12, li12, bt12, mn12⟩ := w12
            refine lv_iconst (v := 1) hx hb dX1_text_95 (by decide) ?_
            have hres : 1 = (mk_text (ro, sz, op, kd, tk, la, li, bt, mn) x1).1 := by
              subst et8 et7 et6 er2
              first | rfl | (simp only [mk_text, mk_text2, mk_text3, ← eu1, ← eu11, ← ew12, if_pos c3, if_pos c4, if_pos c5, if_pos c9, if_neg c4]; done) | (simp [mk_text, mk_text2, mk_text3, ← eu1, ← eu11, ← ew12, if_pos c3, if_pos c4, if_pos c5, if_pos c9, if_neg c4]; done)
            have hre2 : (ro12, sz12, op12, kd12, tk12, la12, li12, bt12, mn12) = (mk_text (ro, sz, op, kd, tk, la, li, bt, mn) x1).2 := by
              subst et8 et7 et6 er2
              first | rfl | (simp only [mk_text, mk_text2, mk_text3, ← eu1, ← eu11, ← ew12, if_pos c3, if_pos c4, if_pos c5, if_pos c9, if_neg c4]; done) | (simp [mk_text, mk_text2, mk_text3, ← eu1, ← eu11, ← ew12, if_pos c3, if_pos c4, if_pos c5, if_pos c9, if_neg c4]; done)
            exact W.zret (v := 1) (ty := .boolean) hx hb hr rfl (fun t ht hW => ⟨⟨1, (ro12, sz12, op12, kd12, tk12, la12, li12, bt12, mn12), rfl, ⟨hres, hre2⟩, by show va_P D vwCl _ t.heap; rw [ht]; exact hP⟩, hS.F ht⟩) hS.2.2 dX1_text_96
        · refine lv_iconst (v := 0) hx hb dX1_text_54 (by decide) ?_
          have hres : 0 = (mk_text (ro, sz, op, kd, tk, la, li, bt, mn) x1).1 := by
            subst et8 et7 et6 er2
            first | rfl | (simp only [mk_text, mk_text2, mk_text3, ← eu1, if_pos c3, if_pos c4, if_pos c5, if_neg c9]; done) | (simp [mk_text, mk_text2, mk_text3, ← eu1, if_pos c3, if_pos c4, if_pos c5, if_neg c9]; done)
          have hre2 : (ro1, sz1, op1, kd1, tk1, la1, li1, bt1, mn1) = (mk_text (ro, sz, op, kd, tk, la, li, bt, mn) x1).2 := by
            subst et8 et7 et6 er2
            first | rfl | (simp only [mk_text, mk_text2, mk_text3, ← eu1, if_pos c3, if_pos c4, if_pos c5, if_neg c9]; done) | (simp [mk_text, mk_text2, mk_text3, ← eu1, if_pos c3, if_pos c4, if_pos c5, if_neg c9]; done)
          exact W.zret (v := 0) (ty := .boolean) hx hb hr rfl (fun t ht hW => ⟨⟨0, (ro1, sz1, op1, kd1, tk1, la1, li1, bt1, mn1), rfl, ⟨hres, hre2⟩, by show va_P D vwCl _ t.heap; rw [ht]; exact hP⟩, hS.F ht⟩) hS.2.2 dX1_text_55
      · refine lv_iconst (v := 2) hx hb dX1_text_29 (by decide) ?_
        refine lv_goto (tgt := 34) hx hb dX1_text_30 (by decide) ?_
        refine lv_istore_n (lv' := [(2, .int 2), (0, .ref m0), (1, .int x1)]) hx hb dX1_text_34 rfl hl (by decide) rfl (fun ls hl => ?_)
        refine lv_aload_n hx hb dX1_text_35 rfl (lv_at hl 1 rfl) ?_
        refine va_get (D := D) (ci := 1) (v := .int sz1) (C := RX1) (T := TX1) (N := 9) hx hb hts hin hown hK hP 0 rfl rfl 1 (by decide) lk23 (fun _ h9 => h9) rfl dX1_text_36 ?_
        refine lv_iload_n hx hb dX1_text_39 rfl (lv_at hl 0 rfl) ?_
        refine lv_iadd hx hb dX1_text_40 ?_
        refine lv_topi (fun t13 et13 => ?_)
        refine lv_aload_n hx hb dX1_text_41 rfl (lv_at hl 1 rfl) ?_
        refine va_get (D := D) (ci := 1) (v := .int mn1) (C := RX1) (T := TX1) (N := 9) hx hb hts hin hown hK hP 0 rfl rfl 8 (by decide) lk33 (fun _ h9 => h9) rfl dX1_text_42 ?_
        refine lv_iadd hx hb dX1_text_45 ?_
        refine lv_topi (fun t14 et14 => ?_)
        refine lv_iconst (v := 1) hx hb dX1_text_46 (by decide) ?_
        refine lv_iadd hx hb dX1_text_47 ?_
        refine lv_topi (fun t15 et15 => ?_)
        refine lv_sipush (v := 3000) hx hb dX1_text_48 (by decide) ?_
        refine lv_icmp_le (tgt := 56) hx hb dX1_text_51 (by decide) (fun c16 => ?_) (fun c16 => ?_)
        · refine lv_aload_n hx hb dX1_text_56 rfl (lv_at hl 1 rfl) ?_
          refine va_get (D := D) (ci := 1) (v := .int kd1) (C := RX1) (T := TX1) (N := 9) hx hb hts hin hown hK hP 0 rfl rfl 3 (by decide) lk13 (fun _ h9 => h9) rfl dX1_text_57 ?_
          refine lv_iconst (v := 4) hx hb dX1_text_60 (by decide) ?_
          refine lv_icmp_eq (tgt := 69) hx hb dX1_text_61 (by decide) (fun c17 => ?_) (fun c17 => ?_)
          · exact absurd c17 c4
          · refine lv_aload_n hx hb dX1_text_64 rfl (lv_at hl 1 rfl) ?_
            refine lv_iconst (v := 4) hx hb dX1_text_65 (by decide) ?_
            obtain ⟨zz, hz1, hz2⟩ := hz
            have hq : sz1 = sz ∧ ∃ n : Nat, n ≤ 4 ∧ mn1 = nI n := by
              rcases mk_code_many (ro, sz, op, kd, tk, la, li, bt, mn) x1 with h | ⟨f, n, h1, h2⟩
              · exact absurd (by rw [er2, h]) c3
              · rw [h2] at eu1
                exact ⟨congrArg (fun z : MSt => z.2.1) eu1, n, h1, congrArg (fun z : MSt => z.2.2.2.2.2.2.2.2) eu1⟩
            obtain ⟨hq1, n, hn, hq2⟩ := hq
            have hb9 : zz + 2 + n + 1 ≤ 3000 := by
              have h : nI zz + nI 2 + nI n + nI 1 ≤ nI 3000 := by
                have h := c16
                rw [et15, et14, et13, hq1, hz1, hq2] at h
                exact h
              rw [nI_add, nI_add, nI_add] at h
              exact (nI_leI (by omega) (by omega)).mp h
            have hzz : sz1 = nI zz := hq1.trans hz1
            refine kk_mutV (cs := mkW cR cY m0 m1 m2) (ci := 1) (q0 := 0) (rest := []) ⟨hx, hb, hml, hown, hts⟩ (cM_start l D cR cY m0 m1 m2 ro1 sz1 op1 kd1 tk1 la1 li1 bt1 mn1 4 (fun h => absurd h c5) (fun _ => ⟨by rw [hzz]; exact vp_in_nI (by omega) (by omega), by rw [hzz, nI_1]; exact vp_in_nI (by omega) (by omega)⟩)) (cwV 1 hts gX1_text_X1_start rfl rfl rfl (by decide +kernel) ⟨Nat.le_of_ble_eq_true rfl, Nat.le_of_ble_eq_true rfl⟩) hK hP hD hS rfl rfl rfl hl.1 rfl (Nat.le_of_ble_eq_true rfl) dX1_text_66 ⟨Nat.zero_le _, Nat.zero_le _⟩ (fun u18 H locs hu18 hP hS hzu18 hku18 => ?_)
            obtain ⟨ro18, sz18, op18, kd18, tk18, la18, li18, bt18, mn18⟩ := u18
            have eu18 : (ro18, sz18, op18, kd18, tk18, la18, li18, bt18, mn18) = mk_start (ro1, sz1, op1, kd1, tk1, la1, li1, bt1, mn1) 4 := hu18
            have hD : va_D A (mkW cR cY m0 m1 m2 (ro18, sz18, op18, kd18, tk18, la18, li18, bt18, mn18)) := kk_D_same hD rfl
            refine lv_iconst (v := 0) hx hb dX1_text_69 (by decide) ?_
            refine lv_istore_n (lv' := [(3, .int 0), (2, .int 2), (0, .ref m0), (1, .int x1)]) hx hb dX1_text_70 rfl hl (by decide) rfl (fun ls hl => ?_)
            have hsf := mk_start_f (ro1, sz1, op1, kd1, tk1, la1, li1, bt1, mn1) 4
            rw [← eu18] at hsf
            have hqs : sz18 = nI (zz + 2) := by rw [show sz18 = sz1 + 1 + 1 from hsf.2.1 c5, hq1, hz1, nI_1]; exact nI_1 (zz + 1)
            have hqm : mn18 = nI n := by rw [show mn18 = mn1 from hsf.2.2]; exact hq2
            have hpl : mk_pall (ro18, sz18, op18, kd18, tk18, la18, li18, bt18, mn18) = mk_puts (ro18, sz18, op18, kd18, tk18, la18, li18, bt18, mn18) 0 n := by show mk_puts (ro18, sz18, op18, kd18, tk18, la18, li18, bt18, mn18) 0 (mn18).toNatClampNeg = _; rw [hqm, nI_clamp (by omega)]
            refine cM_textLoop l D cR cY m0 m1 m2 x1 2 (mk_pall (ro18, sz18, op18, kd18, tk18, la18, li18, bt18, mn18)) hx hb hts hown hml hK (fun k H locs ls hP hD hS hl => ?_) n 0 (ro18, sz18, op18, kd18, tk18, la18, li18, bt18, mn18) 0 H locs ls nI_0.symm (by rw [Nat.zero_add]; exact hqm) (by omega) ⟨(zz + 2), hqs, by omega⟩ hpl.symm hP hD hS (lv_sub hl [0, 2, 3, 1] rfl)
            obtain ⟨w19, ew19⟩ : ∃ w : MSt, w = mk_pall (ro18, sz18, op18, kd18, tk18, la18, li18, bt18, mn18) := ⟨_, rfl⟩
            rw [← ew19] at hP hD
            obtain ⟨ro19, sz19, op19, kd19, tk19, la19, li19, bt19, mn19⟩ := w19
            refine lv_iconst (v := 1) hx hb dX1_text_95 (by decide) ?_
            have hres : 1 = (mk_text (ro, sz, op, kd, tk, la, li, bt, mn) x1).1 := by
              subst et15 et14 et13 er2
              first | rfl | (simp only [mk_text, mk_text2, mk_text3, ← eu1, ← eu18, ← ew19, if_pos c3, if_pos c4, if_neg c5, if_pos c16, if_neg c4]; done) | (simp [mk_text, mk_text2, mk_text3, ← eu1, ← eu18, ← ew19, if_pos c3, if_pos c4, if_neg c5, if_pos c16, if_neg c4]; done)
            have hre2 : (ro19, sz19, op19, kd19, tk19, la19, li19, bt19, mn19) = (mk_text (ro, sz, op, kd, tk, la, li, bt, mn) x1).2 := by
              subst et15 et14 et13 er2
              first | rfl | (simp only [mk_text, mk_text2, mk_text3, ← eu1, ← eu18, ← ew19, if_pos c3, if_pos c4, if_neg c5, if_pos c16, if_neg c4]; done) | (simp [mk_text, mk_text2, mk_text3, ← eu1, ← eu18, ← ew19, if_pos c3, if_pos c4, if_neg c5, if_pos c16, if_neg c4]; done)
            exact W.zret (v := 1) (ty := .boolean) hx hb hr rfl (fun t ht hW => ⟨⟨1, (ro19, sz19, op19, kd19, tk19, la19, li19, bt19, mn19), rfl, ⟨hres, hre2⟩, by show va_P D vwCl _ t.heap; rw [ht]; exact hP⟩, hS.F ht⟩) hS.2.2 dX1_text_96
        · refine lv_iconst (v := 0) hx hb dX1_text_54 (by decide) ?_
          have hres : 0 = (mk_text (ro, sz, op, kd, tk, la, li, bt, mn) x1).1 := by
            subst et15 et14 et13 er2
            first | rfl | (simp only [mk_text, mk_text2, mk_text3, ← eu1, if_pos c3, if_pos c4, if_neg c5, if_neg c16]; done) | (simp [mk_text, mk_text2, mk_text3, ← eu1, if_pos c3, if_pos c4, if_neg c5, if_neg c16]; done)
          have hre2 : (ro1, sz1, op1, kd1, tk1, la1, li1, bt1, mn1) = (mk_text (ro, sz, op, kd, tk, la, li, bt, mn) x1).2 := by
            subst et15 et14 et13 er2
            first | rfl | (simp only [mk_text, mk_text2, mk_text3, ← eu1, if_pos c3, if_pos c4, if_neg c5, if_neg c16]; done) | (simp [mk_text, mk_text2, mk_text3, ← eu1, if_pos c3, if_pos c4, if_neg c5, if_neg c16]; done)
          exact W.zret (v := 0) (ty := .boolean) hx hb hr rfl (fun t ht hW => ⟨⟨0, (ro1, sz1, op1, kd1, tk1, la1, li1, bt1, mn1), rfl, ⟨hres, hre2⟩, by show va_P D vwCl _ t.heap; rw [ht]; exact hP⟩, hS.F ht⟩) hS.2.2 dX1_text_55
    · refine lv_iconst (v := 0) hx hb dX1_text_18 (by decide) ?_
      refine lv_goto (tgt := 34) hx hb dX1_text_19 (by decide) ?_
      refine lv_istore_n (lv' := [(2, .int 0), (0, .ref m0), (1, .int x1)]) hx hb dX1_text_34 rfl hl (by decide) rfl (fun ls hl => ?_)
      refine lv_aload_n hx hb dX1_text_35 rfl (lv_at hl 1 rfl) ?_
      refine va_get (D := D) (ci := 1) (v := .int sz1) (C := RX1) (T := TX1) (N := 9) hx hb hts hin hown hK hP 0 rfl rfl 1 (by decide) lk23 (fun _ h9 => h9) rfl dX1_text_36 ?_
      refine lv_iload_n hx hb dX1_text_39 rfl (lv_at hl 0 rfl) ?_
      refine lv_iadd hx hb dX1_text_40 ?_
      refine lv_topi (fun t20 et20 => ?_)
      refine lv_aload_n hx hb dX1_text_41 rfl (lv_at hl 1 rfl) ?_
      refine va_get (D := D) (ci := 1) (v := .int mn1) (C := RX1) (T := TX1) (N := 9) hx hb hts hin hown hK hP 0 rfl rfl 8 (by decide) lk33 (fun _ h9 => h9) rfl dX1_text_42 ?_
      refine lv_iadd hx hb dX1_text_45 ?_
      refine lv_topi (fun t21 et21 => ?_)
      refine lv_iconst (v := 1) hx hb dX1_text_46 (by decide) ?_
      refine lv_iadd hx hb dX1_text_47 ?_
      refine lv_topi (fun t22 et22 => ?_)
      refine lv_sipush (v := 3000) hx hb dX1_text_48 (by decide) ?_
      refine lv_icmp_le (tgt := 56) hx hb dX1_text_51 (by decide) (fun c23 => ?_) (fun c23 => ?_)
      · refine lv_aload_n hx hb dX1_text_56 rfl (lv_at hl 1 rfl) ?_
        refine va_get (D := D) (ci := 1) (v := .int kd1) (C := RX1) (T := TX1) (N := 9) hx hb hts hin hown hK hP 0 rfl rfl 3 (by decide) lk13 (fun _ h9 => h9) rfl dX1_text_57 ?_
        refine lv_iconst (v := 4) hx hb dX1_text_60 (by decide) ?_
        refine lv_icmp_eq (tgt := 69) hx hb dX1_text_61 (by decide) (fun c24 => ?_) (fun c24 => ?_)
        · refine lv_iconst (v := 0) hx hb dX1_text_69 (by decide) ?_
          refine lv_istore_n (lv' := [(3, .int 0), (2, .int 0), (0, .ref m0), (1, .int x1)]) hx hb dX1_text_70 rfl hl (by decide) rfl (fun ls hl => ?_)
          obtain ⟨zz, hz1, hz2⟩ := hz
          have hq : sz1 = sz ∧ ∃ n : Nat, n ≤ 4 ∧ mn1 = nI n := by
            rcases mk_code_many (ro, sz, op, kd, tk, la, li, bt, mn) x1 with h | ⟨f, n, h1, h2⟩
            · exact absurd (by rw [er2, h]) c3
            · rw [h2] at eu1
              exact ⟨congrArg (fun z : MSt => z.2.1) eu1, n, h1, congrArg (fun z : MSt => z.2.2.2.2.2.2.2.2) eu1⟩
          obtain ⟨hq1, n, hn, hq2⟩ := hq
          have hb9 : zz + 0 + n + 1 ≤ 3000 := by
            have h : nI zz + nI 0 + nI n + nI 1 ≤ nI 3000 := by
              have h := c23
              rw [et22, et21, et20, hq1, hz1, hq2] at h
              exact h
            rw [nI_add, nI_add, nI_add] at h
            exact (nI_leI (by omega) (by omega)).mp h
          have hqs : sz1 = nI zz := hq1.trans hz1
          have hqm : mn1 = nI n := hq2
          have hpl : mk_pall (ro1, sz1, op1, kd1, tk1, la1, li1, bt1, mn1) = mk_puts (ro1, sz1, op1, kd1, tk1, la1, li1, bt1, mn1) 0 n := by show mk_puts (ro1, sz1, op1, kd1, tk1, la1, li1, bt1, mn1) 0 (mn1).toNatClampNeg = _; rw [hqm, nI_clamp (by omega)]
          refine cM_textLoop l D cR cY m0 m1 m2 x1 0 (mk_pall (ro1, sz1, op1, kd1, tk1, la1, li1, bt1, mn1)) hx hb hts hown hml hK (fun k H locs ls hP hD hS hl => ?_) n 0 (ro1, sz1, op1, kd1, tk1, la1, li1, bt1, mn1) 0 H locs ls nI_0.symm (by rw [Nat.zero_add]; exact hqm) (by omega) ⟨zz, hqs, by omega⟩ hpl.symm hP hD hS (lv_sub hl [0, 2, 3, 1] rfl)
          obtain ⟨w25, ew25⟩ : ∃ w : MSt, w = mk_pall (ro1, sz1, op1, kd1, tk1, la1, li1, bt1, mn1) := ⟨_, rfl⟩
          rw [← ew25] at hP hD
          obtain ⟨ro25, sz25, op25, kd25, tk25, la25, li25, bt25, mn25⟩ := w25
          refine lv_iconst (v := 1) hx hb dX1_text_95 (by decide) ?_
          have hres : 1 = (mk_text (ro, sz, op, kd, tk, la, li, bt, mn) x1).1 := by
            subst et22 et21 et20 er2
            first | rfl | (simp only [mk_text, mk_text2, mk_text3, ← eu1, ← ew25, if_pos c3, if_neg (not_not_intro c4), if_pos c23, if_pos c4]; done) | (simp [mk_text, mk_text2, mk_text3, ← eu1, ← ew25, if_pos c3, if_neg (not_not_intro c4), if_pos c23, if_pos c4]; done)
          have hre2 : (ro25, sz25, op25, kd25, tk25, la25, li25, bt25, mn25) = (mk_text (ro, sz, op, kd, tk, la, li, bt, mn) x1).2 := by
            subst et22 et21 et20 er2
            first | rfl | (simp only [mk_text, mk_text2, mk_text3, ← eu1, ← ew25, if_pos c3, if_neg (not_not_intro c4), if_pos c23, if_pos c4]; done) | (simp [mk_text, mk_text2, mk_text3, ← eu1, ← ew25, if_pos c3, if_neg (not_not_intro c4), if_pos c23, if_pos c4]; done)
          exact W.zret (v := 1) (ty := .boolean) hx hb hr rfl (fun t ht hW => ⟨⟨1, (ro25, sz25, op25, kd25, tk25, la25, li25, bt25, mn25), rfl, ⟨hres, hre2⟩, by show va_P D vwCl _ t.heap; rw [ht]; exact hP⟩, hS.F ht⟩) hS.2.2 dX1_text_96
        · exact absurd c4 c24
      · refine lv_iconst (v := 0) hx hb dX1_text_54 (by decide) ?_
        have hres : 0 = (mk_text (ro, sz, op, kd, tk, la, li, bt, mn) x1).1 := by
          subst et22 et21 et20 er2
          first | rfl | (simp only [mk_text, mk_text2, mk_text3, ← eu1, if_pos c3, if_neg (not_not_intro c4), if_neg c23]; done) | (simp [mk_text, mk_text2, mk_text3, ← eu1, if_pos c3, if_neg (not_not_intro c4), if_neg c23]; done)
        have hre2 : (ro1, sz1, op1, kd1, tk1, la1, li1, bt1, mn1) = (mk_text (ro, sz, op, kd, tk, la, li, bt, mn) x1).2 := by
          subst et22 et21 et20 er2
          first | rfl | (simp only [mk_text, mk_text2, mk_text3, ← eu1, if_pos c3, if_neg (not_not_intro c4), if_neg c23]; done) | (simp [mk_text, mk_text2, mk_text3, ← eu1, if_pos c3, if_neg (not_not_intro c4), if_neg c23]; done)
        exact W.zret (v := 0) (ty := .boolean) hx hb hr rfl (fun t ht hW => ⟨⟨0, (ro1, sz1, op1, kd1, tk1, la1, li1, bt1, mn1), rfl, ⟨hres, hre2⟩, by show va_P D vwCl _ t.heap; rw [ht]; exact hP⟩, hS.F ht⟩) hS.2.2 dX1_text_55
  · refine lv_iconst (v := 0) hx hb dX1_text_8 (by decide) ?_
    have hres : 0 = (mk_text (ro, sz, op, kd, tk, la, li, bt, mn) x1).1 := by
      subst er2
      first | rfl | (simp only [mk_text, mk_text2, mk_text3, ← eu1, if_neg (not_not_intro c3)]; done) | (simp [mk_text, mk_text2, mk_text3, ← eu1, if_neg (not_not_intro c3)]; done)
    have hre2 : (ro1, sz1, op1, kd1, tk1, la1, li1, bt1, mn1) = (mk_text (ro, sz, op, kd, tk, la, li, bt, mn) x1).2 := by
      subst er2
      first | rfl | (simp only [mk_text, mk_text2, mk_text3, ← eu1, if_neg (not_not_intro c3)]; done) | (simp [mk_text, mk_text2, mk_text3, ← eu1, if_neg (not_not_intro c3)]; done)
    exact W.zret (v := 0) (ty := .boolean) hx hb hr rfl (fun t ht hW => ⟨⟨0, (ro1, sz1, op1, kd1, tk1, la1, li1, bt1, mn1), rfl, ⟨hres, hre2⟩, by show va_P D vwCl _ t.heap; rw [ht]; exact hP⟩, hS.F ht⟩) hS.2.2 dX1_text_9
