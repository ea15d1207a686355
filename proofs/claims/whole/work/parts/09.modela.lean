abbrev mkW (cR cY : ClassId) (m0 m1 m2 : Nat) (v : MSt) : va_W := [(m0, .inr (1, [.ref m1, .int v.2.1, .int v.2.2.1, .int v.2.2.2.1, .int v.2.2.2.2.1, .int v.2.2.2.2.2.1, .int v.2.2.2.2.2.2.1, .ref m2, .int v.2.2.2.2.2.2.2.2])), (m1, .inl (cR, 3000, .inl v.1)), (m2, .inl (cY, 4, .inl v.2.2.2.2.2.2.2.1))]
abbrev mkR (l : Launch) (y : MethodName) (ws : List Cond) (rm : Room) (D : va_G) (cR cY : ClassId) (m0 m1 m2 : Nat) (v : MSt) (As : List Value) (r : Int32) : Prop := Met l y ws rm (va_Pc (.ref m0 :: As) (kk_Pre D vwCl [(cR, .int), (cY, .int)] (mkW cR cY m0 m1 m2 v))) (QcRead r) 0 0 (fun _ => False)
abbrev mkV (l : Launch) (y : MethodName) (ws : List Cond) (rm : Room) (D : va_G) (cR cY : ClassId) (m0 m1 m2 : Nat) (v : MSt) (As : List Value) (w : MSt) : Prop := Met l y ws rm (va_Pc (.ref m0 :: As) (kk_Pre D vwCl [(cR, .int), (cY, .int)] (mkW cR cY m0 m1 m2 v))) (va_Qv (fun x : MSt => x = w) (fun x t => va_P D vwCl (mkW cR cY m0 m1 m2 x) t.heap) (kk_A (mkW cR cY m0 m1 m2 v))) 0 0 (kk_A (mkW cR cY m0 m1 m2 v))
abbrev mkI (l : Launch) (y : MethodName) (ws : List Cond) (rm : Room) (D : va_G) (cR cY : ClassId) (m0 m1 m2 : Nat) (v : MSt) (As : List Value) (r : Int32) (w : MSt) : Prop := Met l y ws rm (va_Pc (.ref m0 :: As) (kk_Pre D vwCl [(cR, .int), (cY, .int)] (mkW cR cY m0 m1 m2 v))) (va_Qi (fun (z : Int32) (x : MSt) => z = r ∧ x = w) (fun x t => va_P D vwCl (mkW cR cY m0 m1 m2 x) t.heap) (kk_A (mkW cR cY m0 m1 m2 v))) 0 0 (kk_A (mkW cR cY m0 m1 m2 v))
abbrev mkL (l : Launch) (y : MethodName) (ws : List Cond) (rm : Room) (D : va_G) (cR cY : ClassId) (m0 m1 m2 : Nat) (v : MSt) (As : List Value) (r : Int64) (w : MSt) : Prop := Met l y ws rm (va_Pc (.ref m0 :: As) (kk_Pre D vwCl [(cR, .int), (cY, .int)] (mkW cR cY m0 m1 m2 v))) (va_Ql (fun (z : Int64) (x : MSt) => z = r ∧ x = w) (fun x t => va_P D vwCl (mkW cR cY m0 m1 m2 x) t.heap) (kk_A (mkW cR cY m0 m1 m2 v))) 0 0 (kk_A (mkW cR cY m0 m1 m2 v))
set_option maxHeartbeats 4000000 in
set_option maxRecDepth 100000 in
theorem cM_put (l : Launch) (D : va_G) (cR cY : ClassId) (m0 m1 m2 : Nat) (ro : Nat → Int32) (sz op kd tk la li : Int32) (bt : Nat → Int32) (mn : Int32) (x1 : Int32) (hz : vp_in sz 3000) : mkV l yX1_put wsX1_put ({ frames := 0, cells := 0, slots := 0, locals := 0 }) D cR cY m0 m1 m2 (ro, sz, op, kd, tk, la, li, bt, mn) [.int x1] (mk_put (ro, sz, op, kd, tk, la, li, bt, mn) x1) := by
  refine kk_of (cc := cX1_put) (maxL := 2) (ret := none) (by decide) rfl (Nat.le_of_ble_eq_true rfl) ?_
  intro p e s m below meth c ls hx hb hr hts hown hlocks hml hnm hP hK hD hl
  have hown : s.vm.findClass RX1 = some m.cls := hown
  have hl : lv_has ls 2 [(0, .ref m0), (1, .int x1)] := hl
  have hin : ∀ w ∈ wsX10, w ∈ wsX1_put := by decide +kernel
  have lk7 := hts (.fieldLink RX1 7 "EventLineDeskModel" "row" "[I") (by decide +kernel)
  have lk23 := hts (.fieldLink RX1 23 "EventLineDeskModel" "size" "I") (by decide +kernel)
  have lk26 := hts (.fieldLink RX1 26 "EventLineDeskModel" "open" "I") (by decide +kernel)
  generalize hAe : kk_A (mkW cR cY m0 m1 m2 (ro, sz, op, kd, tk, la, li, bt, mn)) = A at hD ⊢
  have hS : va_S A s.heap s.heap [] := va_S.rf
  refine lv_aload_n hx hb dX1_put_0 rfl (lv_at hl 0 rfl) ?_
  refine va_get (D := D) (ci := 1) (v := .ref m1) (C := RX1) (T := TX1) (N := 9) hx hb hts hin hown hK hP 0 rfl rfl 0 (by decide) lk7 (fun _ h9 => h9) rfl dX1_put_1 ?_
  refine lv_aload_n hx hb dX1_put_4 rfl (lv_at hl 0 rfl) ?_
  refine va_get (D := D) (ci := 1) (v := .int sz) (C := RX1) (T := TX1) (N := 9) hx hb hts hin hown hK hP 0 rfl rfl 1 (by decide) lk23 (fun _ h9 => h9) rfl dX1_put_5 ?_
  refine lv_iload_n hx hb dX1_put_8 rfl (lv_at hl 1 rfl) ?_
  refine va_iast hx hb hK hP hD hS 1 0 rfl rfl hz dX1_put_9 (fun H locs hP hD hS => ?_)
  obtain ⟨g1, eg1⟩ : ∃ y : Nat → Int32, y = upd ro sz.toNatClampNeg x1 := ⟨_, rfl⟩
  have hP : va_P D vwCl (mkW cR cY m0 m1 m2 (g1, sz, op, kd, tk, la, li, bt, mn)) H := by rw [eg1]; exact hP
  have hD : va_D A (mkW cR cY m0 m1 m2 (g1, sz, op, kd, tk, la, li, bt, mn)) := kk_D_same hD rfl
  refine lv_aload_n hx hb dX1_put_10 rfl (lv_at hl 0 rfl) ?_
  refine lv_aload_n hx hb dX1_put_11 rfl (lv_at hl 0 rfl) ?_
  refine va_get (D := D) (ci := 1) (v := .int sz) (C := RX1) (T := TX1) (N := 9) hx hb hts hin hown hK hP 0 rfl rfl 1 (by decide) lk23 (fun _ h9 => h9) rfl dX1_put_12 ?_
  refine lv_iconst (v := 1) hx hb dX1_put_15 (by decide) ?_
  refine lv_iadd hx hb dX1_put_16 ?_
  refine lv_topi (fun t2 et2 => ?_)
  refine va_put (D := D) (ci := 1) (v := .int t2) (ty := .int) (C := RX1) (T := TX1) (N := 9) hx hb hts hin tyX1 tyX1_ok nmX1 hown hK hP hD hS 0 rfl rfl 1 (by decide) lk23 (fun _ h9 => h9) rfl (by decide +kernel) rfl rfl (Nat.le_of_ble_eq_true rfl) dX1_put_17 (fun H locs hP hD hS => ?_)
  have hP : va_P D vwCl (mkW cR cY m0 m1 m2 (g1, t2, op, kd, tk, la, li, bt, mn)) H := hP
  have hD : va_D A (mkW cR cY m0 m1 m2 (g1, t2, op, kd, tk, la, li, bt, mn)) := hD
  refine lv_aload_n hx hb dX1_put_20 rfl (lv_at hl 0 rfl) ?_
  refine lv_aload_n hx hb dX1_put_21 rfl (lv_at hl 0 rfl) ?_
  refine va_get (D := D) (ci := 1) (v := .int op) (C := RX1) (T := TX1) (N := 9) hx hb hts hin hown hK hP 0 rfl rfl 2 (by decide) lk26 (fun _ h9 => h9) rfl dX1_put_22 ?_
  refine lv_iconst (v := 1) hx hb dX1_put_25 (by decide) ?_
  refine lv_iadd hx hb dX1_put_26 ?_
  refine lv_topi (fun t3 et3 => ?_)
  refine va_put (D := D) (ci := 1) (v := .int t3) (ty := .int) (C := RX1) (T := TX1) (N := 9) hx hb hts hin tyX1 tyX1_ok nmX1 hown hK hP hD hS 0 rfl rfl 2 (by decide) lk26 (fun _ h9 => h9) rfl (by decide +kernel) rfl rfl (Nat.le_of_ble_eq_true rfl) dX1_put_27 (fun H locs hP hD hS => ?_)
  have hP : va_P D vwCl (mkW cR cY m0 m1 m2 (g1, t2, t3, kd, tk, la, li, bt, mn)) H := hP
  have hD : va_D A (mkW cR cY m0 m1 m2 (g1, t2, t3, kd, tk, la, li, bt, mn)) := hD
  have hres : (g1, t2, t3, kd, tk, la, li, bt, mn) = mk_put (ro, sz, op, kd, tk, la, li, bt, mn) x1 := by
    subst et3 et2 eg1
    first | rfl | (simp only [mk_put]; done) | (simp [mk_put]; done)
  exact W.vret hx hb hr (fun t ht hW => ⟨⟨(g1, t2, t3, kd, tk, la, li, bt, mn), rfl, hres, by show va_P D vwCl _ t.heap; rw [ht]; exact hP⟩, hS.F ht⟩) hS.2.2 dX1_put_30
set_option maxHeartbeats 4000000 in
set_option maxRecDepth 100000 in
theorem cM_close (l : Launch) (D : va_G) (cR cY : ClassId) (m0 m1 m2 : Nat) (ro : Nat → Int32) (sz op kd tk la li : Int32) (bt : Nat → Int32) (mn : Int32)  (hz : vp_in sz 3000) : mkV l yX1_close wsX1_close ({ frames := 0, cells := 0, slots := 0, locals := 0 }) D cR cY m0 m1 m2 (ro, sz, op, kd, tk, la, li, bt, mn) [] (mk_close (ro, sz, op, kd, tk, la, li, bt, mn)) := by
  refine kk_of (cc := cX1_close) (maxL := 1) (ret := none) (by decide) rfl (Nat.le_of_ble_eq_true rfl) ?_
  intro p e s m below meth c ls hx hb hr hts hown hlocks hml hnm hP hK hD hl
  have hown : s.vm.findClass RX1 = some m.cls := hown
  have hl : lv_has ls 1 [(0, .ref m0)] := hl
  have hin : ∀ w ∈ wsX10, w ∈ wsX1_close := by decide +kernel
  have lk7 := hts (.fieldLink RX1 7 "EventLineDeskModel" "row" "[I") (by decide +kernel)
  have lk23 := hts (.fieldLink RX1 23 "EventLineDeskModel" "size" "I") (by decide +kernel)
  have lk26 := hts (.fieldLink RX1 26 "EventLineDeskModel" "open" "I") (by decide +kernel)
  have lk13 := hts (.fieldLink RX1 13 "EventLineDeskModel" "kind" "I") (by decide +kernel)
  generalize hAe : kk_A (mkW cR cY m0 m1 m2 (ro, sz, op, kd, tk, la, li, bt, mn)) = A at hD ⊢
  have hS : va_S A s.heap s.heap [] := va_S.rf
  refine lv_aload_n hx hb dX1_close_0 rfl (lv_at hl 0 rfl) ?_
  refine va_get (D := D) (ci := 1) (v := .ref m1) (C := RX1) (T := TX1) (N := 9) hx hb hts hin hown hK hP 0 rfl rfl 0 (by decide) lk7 (fun _ h9 => h9) rfl dX1_close_1 ?_
  refine lv_aload_n hx hb dX1_close_4 rfl (lv_at hl 0 rfl) ?_
  refine va_get (D := D) (ci := 1) (v := .int sz) (C := RX1) (T := TX1) (N := 9) hx hb hts hin hown hK hP 0 rfl rfl 1 (by decide) lk23 (fun _ h9 => h9) rfl dX1_close_5 ?_
  refine lv_bipush (v := 10) hx hb dX1_close_8 (by decide) ?_
  refine va_iast hx hb hK hP hD hS 1 0 rfl rfl hz dX1_close_10 (fun H locs hP hD hS => ?_)
  obtain ⟨g1, eg1⟩ : ∃ y : Nat → Int32, y = upd ro sz.toNatClampNeg (10 : Int32) := ⟨_, rfl⟩
  have hP : va_P D vwCl (mkW cR cY m0 m1 m2 (g1, sz, op, kd, tk, la, li, bt, mn)) H := by rw [eg1]; exact hP
  have hD : va_D A (mkW cR cY m0 m1 m2 (g1, sz, op, kd, tk, la, li, bt, mn)) := kk_D_same hD rfl
  refine lv_aload_n hx hb dX1_close_11 rfl (lv_at hl 0 rfl) ?_
  refine lv_aload_n hx hb dX1_close_12 rfl (lv_at hl 0 rfl) ?_
  refine va_get (D := D) (ci := 1) (v := .int sz) (C := RX1) (T := TX1) (N := 9) hx hb hts hin hown hK hP 0 rfl rfl 1 (by decide) lk23 (fun _ h9 => h9) rfl dX1_close_13 ?_
  refine lv_iconst (v := 1) hx hb dX1_close_16 (by decide) ?_
  refine lv_iadd hx hb dX1_close_17 ?_
  refine lv_topi (fun t2 et2 => ?_)
  refine va_put (D := D) (ci := 1) (v := .int t2) (ty := .int) (C := RX1) (T := TX1) (N := 9) hx hb hts hin tyX1 tyX1_ok nmX1 hown hK hP hD hS 0 rfl rfl 1 (by decide) lk23 (fun _ h9 => h9) rfl (by decide +kernel) rfl rfl (Nat.le_of_ble_eq_true rfl) dX1_close_18 (fun H locs hP hD hS => ?_)
  have hP : va_P D vwCl (mkW cR cY m0 m1 m2 (g1, t2, op, kd, tk, la, li, bt, mn)) H := hP
  have hD : va_D A (mkW cR cY m0 m1 m2 (g1, t2, op, kd, tk, la, li, bt, mn)) := hD
  refine lv_aload_n hx hb dX1_close_21 rfl (lv_at hl 0 rfl) ?_
  refine lv_iconst (v := 0) hx hb dX1_close_22 (by decide) ?_
  refine va_put (D := D) (ci := 1) (v := .int 0) (ty := .int) (C := RX1) (T := TX1) (N := 9) hx hb hts hin tyX1 tyX1_ok nmX1 hown hK hP hD hS 0 rfl rfl 2 (by decide) lk26 (fun _ h9 => h9) rfl (by decide +kernel) rfl rfl (Nat.le_of_ble_eq_true rfl) dX1_close_23 (fun H locs hP hD hS => ?_)
  have hP : va_P D vwCl (mkW cR cY m0 m1 m2 (g1, t2, 0, kd, tk, la, li, bt, mn)) H := hP
  have hD : va_D A (mkW cR cY m0 m1 m2 (g1, t2, 0, kd, tk, la, li, bt, mn)) := hD
  refine lv_aload_n hx hb dX1_close_26 rfl (lv_at hl 0 rfl) ?_
  refine lv_iconst (v := (-1)) hx hb dX1_close_27 (by decide) ?_
  refine va_put (D := D) (ci := 1) (v := .int (-1)) (ty := .int) (C := RX1) (T := TX1) (N := 9) hx hb hts hin tyX1 tyX1_ok nmX1 hown hK hP hD hS 0 rfl rfl 3 (by decide) lk13 (fun _ h9 => h9) rfl (by decide +kernel) rfl rfl (Nat.le_of_ble_eq_true rfl) dX1_close_28 (fun H locs hP hD hS => ?_)
  have hP : va_P D vwCl (mkW cR cY m0 m1 m2 (g1, t2, 0, (-1), tk, la, li, bt, mn)) H := hP
  have hD : va_D A (mkW cR cY m0 m1 m2 (g1, t2, 0, (-1), tk, la, li, bt, mn)) := hD
  have hres : (g1, t2, 0, (-1), tk, la, li, bt, mn) = mk_close (ro, sz, op, kd, tk, la, li, bt, mn) := by
    subst et2 eg1
    first | rfl | (simp only [mk_close]; done) | (simp [mk_close]; done)
  exact W.vret hx hb hr (fun t ht hW => ⟨⟨(g1, t2, 0, (-1), tk, la, li, bt, mn), rfl, hres, by show va_P D vwCl _ t.heap; rw [ht]; exact hP⟩, hS.F ht⟩) hS.2.2 dX1_close_31
set_option maxHeartbeats 4000000 in
set_option maxRecDepth 100000 in
theorem cM_start (l : Launch) (D : va_G) (cR cY : ClassId) (m0 m1 m2 : Nat) (ro : Nat → Int32) (sz op kd tk la li : Int32) (bt : Nat → Int32) (mn : Int32) (x1 : Int32) (h1 : kd < 0 → vp_in sz 3000) (h2 : ¬ kd < 0 → vp_in sz 3000 ∧ vp_in (sz + 1) 3000) : mkV l yX1_start wsX1_start ({ frames := 1, cells := 0, slots := 0, locals := 21 }) D cR cY m0 m1 m2 (ro, sz, op, kd, tk, la, li, bt, mn) [.int x1] (mk_start (ro, sz, op, kd, tk, la, li, bt, mn) x1) := by
  refine kk_of (cc := cX1_start) (maxL := 2) (ret := none) (by decide) rfl (Nat.le_of_ble_eq_true rfl) ?_
  intro p e s m below meth c ls hx hb hr hts hown hlocks hml hnm hP hK hD hl
  have hown : s.vm.findClass RX1 = some m.cls := hown
  have hl : lv_has ls 2 [(0, .ref m0), (1, .int x1)] := hl
  have hin : ∀ w ∈ wsX10, w ∈ wsX1_start := by decide +kernel
  have lk13 := hts (.fieldLink RX1 13 "EventLineDeskModel" "kind" "I") (by decide +kernel)
  generalize hAe : kk_A (mkW cR cY m0 m1 m2 (ro, sz, op, kd, tk, la, li, bt, mn)) = A at hD ⊢
  have hS : va_S A s.heap s.heap [] := va_S.rf
  refine lv_aload_n hx hb dX1_start_0 rfl (lv_at hl 0 rfl) ?_
  refine va_get (D := D) (ci := 1) (v := .int kd) (C := RX1) (T := TX1) (N := 9) hx hb hts hin hown hK hP 0 rfl rfl 3 (by decide) lk13 (fun _ h9 => h9) rfl dX1_start_1 ?_
  refine lv_if_lt (tgt := 11) hx hb dX1_start_4 (by decide) (fun c1 => ?_) (fun c1 => ?_)
  · refine lv_aload_n hx hb dX1_start_11 rfl (lv_at hl 0 rfl) ?_
    refine lv_iload_n hx hb dX1_start_12 rfl (lv_at hl 1 rfl) ?_
    refine va_put (D := D) (ci := 1) (v := .int x1) (ty := .int) (C := RX1) (T := TX1) (N := 9) hx hb hts hin tyX1 tyX1_ok nmX1 hown hK hP hD hS 0 rfl rfl 3 (by decide) lk13 (fun _ h9 => h9) rfl (by decide +kernel) rfl rfl (Nat.le_of_ble_eq_true rfl) dX1_start_13 (fun H locs hP hD hS => ?_)
    have hP : va_P D vwCl (mkW cR cY m0 m1 m2 (ro, sz, op, x1, tk, la, li, bt, mn)) H := hP
    have hD : va_D A (mkW cR cY m0 m1 m2 (ro, sz, op, x1, tk, la, li, bt, mn)) := hD
    refine lv_aload_n hx hb dX1_start_16 rfl (lv_at hl 0 rfl) ?_
    refine lv_iload_n hx hb dX1_start_17 rfl (lv_at hl 1 rfl) ?_
    refine lv_if_ne (tgt := 26) hx hb dX1_start_18 (by decide) (fun c2 => ?_) (fun c2 => ?_)
    · refine lv_iload_n hx hb dX1_start_26 rfl (lv_at hl 1 rfl) ?_
      refine lv_iconst (v := 1) hx hb dX1_start_27 (by decide) ?_
      refine lv_icmp_ne (tgt := 36) hx hb dX1_start_28 (by decide) (fun c3 => ?_) (fun c3 => ?_)
      · refine lv_iload_n hx hb dX1_start_36 rfl (lv_at hl 1 rfl) ?_
        refine lv_iconst (v := 2) hx hb dX1_start_37 (by decide) ?_
        refine lv_icmp_ne (tgt := 46) hx hb dX1_start_38 (by decide) (fun c4 => ?_) (fun c4 => ?_)
        · refine lv_iload_n hx hb dX1_start_46 rfl (lv_at hl 1 rfl) ?_
          refine lv_iconst (v := 3) hx hb dX1_start_47 (by decide) ?_
          refine lv_icmp_ne (tgt := 56) hx hb dX1_start_48 (by decide) (fun c5 => ?_) (fun c5 => ?_)
          · refine lv_bipush (v := 45) hx hb dX1_start_56 (by decide) ?_
            refine kk_mutV (cs := mkW cR cY m0 m1 m2) (ci := 1) (q0 := 0) (rest := []) ⟨hx, hb, hml, hown, hts⟩ (cM_put l D cR cY m0 m1 m2 ro sz op x1 tk la li bt mn 45 (h1 c1)) (cwV 1 hts gX1_start_X1_put rfl rfl rfl (by decide +kernel) ⟨Nat.le_of_ble_eq_true rfl, Nat.le_of_ble_eq_true rfl⟩) hK hP hD hS rfl rfl rfl hl.1 rfl (Nat.le_of_ble_eq_true rfl) dX1_start_58 ⟨Nat.zero_le _, Nat.zero_le _⟩ (fun u6 H locs hu6 hP hS hzu6 hku6 => ?_)
            obtain ⟨ro6, sz6, op6, kd6, tk6, la6, li6, bt6, mn6⟩ := u6
            have eu6 : (ro6, sz6, op6, kd6, tk6, la6, li6, bt6, mn6) = mk_put (ro, sz, op, x1, tk, la, li, bt, mn) 45 := hu6
            have hD : va_D A (mkW cR cY m0 m1 m2 (ro6, sz6, op6, kd6, tk6, la6, li6, bt6, mn6)) := kk_D_same hD rfl
            have hres : (ro6, sz6, op6, kd6, tk6, la6, li6, bt6, mn6) = mk_start (ro, sz, op, kd, tk, la, li, bt, mn) x1 := by
              first | rfl | (simp only [mk_start, mk_sk, mk_fb, ← eu6, if_pos c1, if_pos c2, if_pos c3, if_pos c4, if_pos c5]; done) | (simp [mk_start, mk_sk, mk_fb, ← eu6, if_pos c1, if_pos c2, if_pos c3, if_pos c4, if_pos c5]; done)
            exact W.vret hx hb hr (fun t ht hW => ⟨⟨(ro6, sz6, op6, kd6, tk6, la6, li6, bt6, mn6), rfl, hres, by show va_P D vwCl _ t.heap; rw [ht]; exact hP⟩, hS.F ht⟩) hS.2.2 dX1_start_61
          · refine lv_bipush (v := 63) hx hb dX1_start_51 (by decide) ?_
            refine lv_goto (tgt := 58) hx hb dX1_start_53 (by decide) ?_
            refine kk_mutV (cs := mkW cR cY m0 m1 m2) (ci := 1) (q0 := 0) (rest := []) ⟨hx, hb, hml, hown, hts⟩ (cM_put l D cR cY m0 m1 m2 ro sz op x1 tk la li bt mn 63 (h1 c1)) (cwV 1 hts gX1_start_X1_put rfl rfl rfl (by decide +kernel) ⟨Nat.le_of_ble_eq_true rfl, Nat.le_of_ble_eq_true rfl⟩) hK hP hD hS rfl rfl rfl hl.1 rfl (Nat.le_of_ble_eq_true rfl) dX1_start_58 ⟨Nat.zero_le _, Nat.zero_le _⟩ (fun u7 H locs hu7 hP hS hzu7 hku7 => ?_)
            obtain ⟨ro7, sz7, op7, kd7, tk7, la7, li7, bt7, mn7⟩ := u7
            have eu7 : (ro7, sz7, op7, kd7, tk7, la7, li7, bt7, mn7) = mk_put (ro, sz, op, x1, tk, la, li, bt, mn) 63 := hu7
            have hD : va_D A (mkW cR cY m0 m1 m2 (ro7, sz7, op7, kd7, tk7, la7, li7, bt7, mn7)) := kk_D_same hD rfl
            have hres : (ro7, sz7, op7, kd7, tk7, la7, li7, bt7, mn7) = mk_start (ro, sz, op, kd, tk, la, li, bt, mn) x1 := by
              first | rfl | (simp only [mk_start, mk_sk, mk_fb, ← eu7, if_pos c1, if_pos c2, if_pos c3, if_pos c4, if_neg (not_not_intro c5)]; done) | (simp [mk_start, mk_sk, mk_fb, ← eu7, if_pos c1, if_pos c2, if_pos c3, if_pos c4, if_neg (not_not_intro c5)]; done)
            exact W.vret hx hb hr (fun t ht hW => ⟨⟨(ro7, sz7, op7, kd7, tk7, la7, li7, bt7, mn7), rfl, hres, by show va_P D vwCl _ t.heap; rw [ht]; exact hP⟩, hS.F ht⟩) hS.2.2 dX1_start_61
        · refine lv_bipush (v := 65) hx hb dX1_start_41 (by decide) ?_
          refine lv_goto (tgt := 58) hx hb dX1_start_43 (by decide) ?_
          refine kk_mutV (cs := mkW cR cY m0 m1 m2) (ci := 1) (q0 := 0) (rest := []) ⟨hx, hb, hml, hown, hts⟩ (cM_put l D cR cY m0 m1 m2 ro sz op x1 tk la li bt mn 65 (h1 c1)) (cwV 1 hts gX1_start_X1_put rfl rfl rfl (by decide +kernel) ⟨Nat.le_of_ble_eq_true rfl, Nat.le_of_ble_eq_true rfl⟩) hK hP hD hS rfl rfl rfl hl.1 rfl (Nat.le_of_ble_eq_true rfl) dX1_start_58 ⟨Nat.zero_le _, Nat.zero_le _⟩ (fun u8 H locs hu8 hP hS hzu8 hku8 => ?_)
          obtain ⟨ro8, sz8, op8, kd8, tk8, la8, li8, bt8, mn8⟩ := u8
          have eu8 : (ro8, sz8, op8, kd8, tk8, la8, li8, bt8, mn8) = mk_put (ro, sz, op, x1, tk, la, li, bt, mn) 65 := hu8
          have hD : va_D A (mkW cR cY m0 m1 m2 (ro8, sz8, op8, kd8, tk8, la8, li8, bt8, mn8)) := kk_D_same hD rfl
          have hres : (ro8, sz8, op8, kd8, tk8, la8, li8, bt8, mn8) = mk_start (ro, sz, op, kd, tk, la, li, bt, mn) x1 := by
            first | rfl | (simp only [mk_start, mk_sk, mk_fb, ← eu8, if_pos c1, if_pos c2, if_pos c3, if_neg (not_not_intro c4)]; done) | (simp [mk_start, mk_sk, mk_fb, ← eu8, if_pos c1, if_pos c2, if_pos c3, if_neg (not_not_intro c4)]; done)
          exact W.vret hx hb hr (fun t ht hW => ⟨⟨(ro8, sz8, op8, kd8, tk8, la8, li8, bt8, mn8), rfl, hres, by show va_P D vwCl _ t.heap; rw [ht]; exact hP⟩, hS.F ht⟩) hS.2.2 dX1_start_61
      · refine lv_bipush (v := 41) hx hb dX1_start_31 (by decide) ?_
        refine lv_goto (tgt := 58) hx hb dX1_start_33 (by decide) ?_
        refine kk_mutV (cs := mkW cR cY m0 m1 m2) (ci := 1) (q0 := 0) (rest := []) ⟨hx, hb, hml, hown, hts⟩ (cM_put l D cR cY m0 m1 m2 ro sz op x1 tk la li bt mn 41 (h1 c1)) (cwV 1 hts gX1_start_X1_put rfl rfl rfl (by decide +kernel) ⟨Nat.le_of_ble_eq_true rfl, Nat.le_of_ble_eq_true rfl⟩) hK hP hD hS rfl rfl rfl hl.1 rfl (Nat.le_of_ble_eq_true rfl) dX1_start_58 ⟨Nat.zero_le _, Nat.zero_le _⟩ (fun u9 H locs hu9 hP hS hzu9 hku9 => ?_)
        obtain ⟨ro9, sz9, op9, kd9, tk9, la9, li9, bt9, mn9⟩ := u9
        have eu9 : (ro9, sz9, op9, kd9, tk9, la9, li9, bt9, mn9) = mk_put (ro, sz, op, x1, tk, la, li, bt, mn) 41 := hu9
        have hD : va_D A (mkW cR cY m0 m1 m2 (ro9, sz9, op9, kd9, tk9, la9, li9, bt9, mn9)) := kk_D_same hD rfl
        have hres : (ro9, sz9, op9, kd9, tk9, la9, li9, bt9, mn9) = mk_start (ro, sz, op, kd, tk, la, li, bt, mn) x1 := by
          first | rfl | (simp only [mk_start, mk_sk, mk_fb, ← eu9, if_pos c1, if_pos c2, if_neg (not_not_intro c3)]; done) | (simp [mk_start, mk_sk, mk_fb, ← eu9, if_pos c1, if_pos c2, if_neg (not_not_intro c3)]; done)
        exact W.vret hx hb hr (fun t ht hW => ⟨⟨(ro9, sz9, op9, kd9, tk9, la9, li9, bt9, mn9), rfl, hres, by show va_P D vwCl _ t.heap; rw [ht]; exact hP⟩, hS.F ht⟩) hS.2.2 dX1_start_61
    · refine lv_bipush (v := 40) hx hb dX1_start_21 (by decide) ?_
      refine lv_goto (tgt := 58) hx hb dX1_start_23 (by decide) ?_
      refine kk_mutV (cs := mkW cR cY m0 m1 m2) (ci := 1) (q0 := 0) (rest := []) ⟨hx, hb, hml, hown, hts⟩ (cM_put l D cR cY m0 m1 m2 ro sz op x1 tk la li bt mn 40 (h1 c1)) (cwV 1 hts gX1_start_X1_put rfl rfl rfl (by decide +kernel) ⟨Nat.le_of_ble_eq_true rfl, Nat.le_of_ble_eq_true rfl⟩) hK hP hD hS rfl rfl rfl hl.1 rfl (Nat.le_of_ble_eq_true rfl) dX1_start_58 ⟨Nat.zero_le _, Nat.zero_le _⟩ (fun u10 H locs hu10 hP hS hzu10 hku10 => ?_)
      obtain ⟨ro10, sz10, op10, kd10, tk10, la10, li10, bt10, mn10⟩ := u10
      have eu10 : (ro10, sz10, op10, kd10, tk10, la10, li10, bt10, mn10) = mk_put (ro, sz, op, x1, tk, la, li, bt, mn) 40 := hu10
      have hD : va_D A (mkW cR cY m0 m1 m2 (ro10, sz10, op10, kd10, tk10, la10, li10, bt10, mn10)) := kk_D_same hD rfl
      have hres : (ro10, sz10, op10, kd10, tk10, la10, li10, bt10, mn10) = mk_start (ro, sz, op, kd, tk, la, li, bt, mn) x1 := by
        first | rfl | (simp only [mk_start, mk_sk, mk_fb, ← eu10, if_pos c1, if_neg (not_not_intro c2)]; done) | (simp [mk_start, mk_sk, mk_fb, ← eu10, if_pos c1, if_neg (not_not_intro c2)]; done)
      exact W.vret hx hb hr (fun t ht hW => ⟨⟨(ro10, sz10, op10, kd10, tk10, la10, li10, bt10, mn10), rfl, hres, by show va_P D vwCl _ t.heap; rw [ht]; exact hP⟩, hS.F ht⟩) hS.2.2 dX1_start_61
  · refine lv_aload_n hx hb dX1_start_7 rfl (lv_at hl 0 rfl) ?_
    refine kk_mutV (cs := mkW cR cY m0 m1 m2) (ci := 1) (q0 := 0) (rest := []) ⟨hx, hb, hml, hown, hts⟩ (cM_close l D cR cY m0 m1 m2 ro sz op kd tk la li bt mn (h2 c1).1) (cwV 0 hts gX1_start_X1_close rfl rfl rfl (by decide +kernel) ⟨Nat.le_of_ble_eq_true rfl, Nat.le_of_ble_eq_true rfl⟩) hK hP hD hS rfl rfl rfl hl.1 rfl (Nat.le_of_ble_eq_true rfl) dX1_start_8 ⟨Nat.zero_le _, Nat.zero_le _⟩ (fun u11 H locs hu11 hP hS hzu11 hku11 => ?_)
    obtain ⟨ro11, sz11, op11, kd11, tk11, la11, li11, bt11, mn11⟩ := u11
    have eu11 : (ro11, sz11, op11, kd11, tk11, la11, li11, bt11, mn11) = mk_close (ro, sz, op, kd, tk, la, li, bt, mn) := hu11
    have hD : va_D A (mkW cR cY m0 m1 m2 (ro11, sz11, op11, kd11, tk11, la11, li11, bt11, mn11)) := kk_D_same hD rfl
    refine lv_aload_n hx hb dX1_start_11 rfl (lv_at hl 0 rfl) ?_
    refine lv_iload_n hx hb dX1_start_12 rfl (lv_at hl 1 rfl) ?_
    refine va_put (D := D) (ci := 1) (v := .int x1) (ty := .int) (C := RX1) (T := TX1) (N := 9) hx hb hts hin tyX1 tyX1_ok nmX1 hown hK hP hD hS 0 rfl rfl 3 (by decide) lk13 (fun _ h9 => h9) rfl (by decide +kernel) rfl rfl (Nat.le_of_ble_eq_true rfl) dX1_start_13 (fun H locs hP hD hS => ?_)
    have hP : va_P D vwCl (mkW cR cY m0 m1 m2 (ro11, sz11, op11, x1, tk11, la11, li11, bt11, mn11)) H := hP
    have hD : va_D A (mkW cR cY m0 m1 m2 (ro11, sz11, op11, x1, tk11, la11, li11, bt11, mn11)) := hD
    refine lv_aload_n hx hb dX1_start_16 rfl (lv_at hl 0 rfl) ?_
    refine lv_iload_n hx hb dX1_start_17 rfl (lv_at hl 1 rfl) ?_
    refine lv_if_ne (tgt := 26) hx hb dX1_start_18 (by decide) (fun c12 => ?_) (fun c12 => ?_)
    · refine lv_iload_n hx hb dX1_start_26 rfl (lv_at hl 1 rfl) ?_
      refine lv_iconst (v := 1) hx hb dX1_start_27 (by decide) ?_
      refine lv_icmp_ne (tgt := 36) hx hb dX1_start_28 (by decide) (fun c13 => ?_) (fun c13 => ?_)
      · refine lv_iload_n hx hb dX1_start_36 rfl (lv_at hl 1 rfl) ?_
        refine lv_iconst (v := 2) hx hb dX1_start_37 (by decide) ?_
        refine lv_icmp_ne (tgt := 46) hx hb dX1_start_38 (by decide) (fun c14 => ?_) (fun c14 => ?_)
        · refine lv_iload_n hx hb dX1_start_46 rfl (lv_at hl 1 rfl) ?_
          refine lv_iconst (v := 3) hx hb dX1_start_47 (by decide) ?_
          refine lv_icmp_ne (tgt := 56) hx hb dX1_start_48 (by decide) (fun c15 => ?_) (fun c15 => ?_)
          · refine lv_bipush (v := 45) hx hb dX1_start_56 (by decide) ?_
            refine kk_mutV (cs := mkW cR cY m0 m1 m2) (ci := 1) (q0 := 0) (rest := []) ⟨hx, hb, hml, hown, hts⟩ (cM_put l D cR cY m0 m1 m2 ro11 sz11 op11 x1 tk11 la11 li11 bt11 mn11 45 (show vp_in sz11 3000 from by rw [show sz11 = sz + 1 from congrArg (fun z : MSt => z.2.1) eu11]; exact (h2 c1).2)) (cwV 1 hts gX1_start_X1_put rfl rfl rfl (by decide +kernel) ⟨Nat.le_of_ble_eq_true rfl, Nat.le_of_ble_eq_true rfl⟩) hK hP hD hS rfl rfl rfl hl.1 rfl (Nat.le_of_ble_eq_true rfl) dX1_start_58 ⟨Nat.zero_le _, Nat.zero_le _⟩ (fun u16 H locs hu16 hP hS hzu16 hku16 => ?_)
            obtain ⟨ro16, sz16, op16, kd16, tk16, la16, li16, bt16, mn16⟩ := u16
            have eu16 : (ro16, sz16, op16, kd16, tk16, la16, li16, bt16, mn16) = mk_put (ro11, sz11, op11, x1, tk11, la11, li11, bt11, mn11) 45 := hu16
            have hD : va_D A (mkW cR cY m0 m1 m2 (ro16, sz16, op16, kd16, tk16, la16, li16, bt16, mn16)) := kk_D_same hD rfl
            have hres : (ro16, sz16, op16, kd16, tk16, la16, li16, bt16, mn16) = mk_start (ro, sz, op, kd, tk, la, li, bt, mn) x1 := by
              first | rfl | (simp only [mk_start, mk_sk, mk_fb, ← eu11, ← eu16, if_neg c1, if_pos c12, if_pos c13, if_pos c14, if_pos c15]; done) | (simp [mk_start, mk_sk, mk_fb, ← eu11, ← eu16, if_neg c1, if_pos c12, if_pos c13, if_pos c14, if_pos c15]; done)
            exact W.vret hx hb hr (fun t ht hW => ⟨⟨(ro16, sz16, op16, kd16, tk16, la16, li16, bt16, mn16), rfl, hres, by show va_P D vwCl _ t.heap; rw [ht]; exact hP⟩, hS.F ht⟩) hS.2.2 dX1_start_61
          · refine lv_bipush (v := 63) hx hb dX1_start_51 (by decide) ?_
            refine lv_goto (tgt := 58) hx hb dX1_start_53 (by decide) ?_
            refine kk_mutV (cs := mkW cR cY m0 m1 m2) (ci := 1) (q0 := 0) (rest := []) ⟨hx, hb, hml, hown, hts⟩ (cM_put l D cR cY m0 m1 m2 ro11 sz11 op11 x1 tk11 la11 li11 bt11 mn11 63 (show vp_in sz11 3000 from by rw [show sz11 = sz + 1 from congrArg (fun z : MSt => z.2.1) eu11]; exact (h2 c1).2)) (cwV 1 hts gX1_start_X1_put rfl rfl rfl (by decide +kernel) ⟨Nat.le_of_ble_eq_true rfl, Nat.le_of_ble_eq_true rfl⟩) hK hP hD hS rfl rfl rfl hl.1 rfl (Nat.le_of_ble_eq_true rfl) dX1_start_58 ⟨Nat.zero_le _, Nat.zero_le _⟩ (fun u17 H locs hu17 hP hS hzu17 hku17 => ?_)
            obtain ⟨ro17, sz17, op17, kd17, tk17, la17, li17, bt17, mn17⟩ := u17
            have eu17 : (ro17, sz17, op17, kd17, tk17, la17, li17, bt17, mn17) = mk_put (ro11, sz11, op11, x1, tk11, la11, li11, bt11, mn11) 63 := hu17
            have hD : va_D A (mkW cR cY m0 m1 m2 (ro17, sz17, op17, kd17, tk17, la17, li17, bt17, mn17)) := kk_D_same hD rfl
            have hres : (ro17, sz17, op17, kd17, tk17, la17, li17, bt17, mn17) = mk_start (ro, sz, op, kd, tk, la, li, bt, mn) x1 := by
              first | rfl | (simp only [mk_start, mk_sk, mk_fb, ← eu11, ← eu17, if_neg c1, if_pos c12, if_pos c13, if_pos c14, if_neg (not_not_intro c15)]; done) | (simp [mk_start, mk_sk, mk_fb, ← eu11, ← eu17, if_neg c1, if_pos c12, if_pos c13, if_pos c14, if_neg (not_not_intro c15)]; done)
            exact W.vret hx hb hr (fun t ht hW => ⟨⟨(ro17, sz17, op17, kd17, tk17, la17, li17, bt17, mn17), rfl, hres, by show va_P D vwCl _ t.heap; rw [ht]; exact hP⟩, hS.F ht⟩) hS.2.2 dX1_start_61
        · refine lv_bipush (v := 65) hx hb dX1_start_41 (by decide) ?_
          refine lv_goto (tgt := 58) hx hb dX1_start_43 (by decide) ?_
          refine kk_mutV (cs := mkW cR cY m0 m1 m2) (ci := 1) (q0 := 0) (rest := []) ⟨hx, hb, hml, hown, hts⟩ (cM_put l D cR cY m0 m1 m2 ro11 sz11 op11 x1 tk11 la11 li11 bt11 mn11 65 (show vp_in sz11 3000 from by rw [show sz11 = sz + 1 from congrArg (fun z : MSt => z.2.1) eu11]; exact (h2 c1).2)) (cwV 1 hts gX1_start_X1_put rfl rfl rfl (by decide +kernel) ⟨Nat.le_of_ble_eq_true rfl, Nat.le_of_ble_eq_true rfl⟩) hK hP hD hS rfl rfl rfl hl.1 rfl (Nat.le_of_ble_eq_true rfl) dX1_start_58 ⟨Nat.zero_le _, Nat.zero_le _⟩ (fun u18 H locs hu18 hP hS hzu18 hku18 => ?_)
          obtain ⟨ro18, sz18, op18, kd18, tk18, la18, li18, bt18, mn18⟩ := u18
          have eu18 : (ro18, sz18, op18, kd18, tk18, la18, li18, bt18, mn18) = mk_put (ro11, sz11, op11, x1, tk11, la11, li11, bt11, mn11) 65 := hu18
          have hD : va_D A (mkW cR cY m0 m1 m2 (ro18, sz18, op18, kd18, tk18, la18, li18, bt18, mn18)) := kk_D_same hD rfl
          have hres : (ro18, sz18, op18, kd18, tk18, la18, li18, bt18, mn18) = mk_start (ro, sz, op, kd, tk, la, li, bt, mn) x1 := by
            first | rfl | (simp only [mk_start, mk_sk, mk_fb, ← eu11, ← eu18, if_neg c1, if_pos c12, if_pos c13, if_neg (not_not_intro c14)]; done) | (simp [mk_start, mk_sk, mk_fb, ← eu11, ← eu18, if_neg c1, if_pos c12, if_pos c13, if_neg (not_not_intro c14)]; done)
          exact W.vret hx hb hr (fun t ht hW => ⟨⟨(ro18, sz18, op18, kd18, tk18, la18, li18, bt18, mn18), rfl, hres, by show va_P D vwCl _ t.heap; rw [ht]; exact hP⟩, hS.F ht⟩) hS.2.2 dX1_start_61
      · refine lv_bipush (v := 41) hx hb dX1_start_31 (by decide) ?_
        refine lv_goto (tgt := 58) hx hb dX1_start_33 (by decide) ?_
        refine kk_mutV (cs := mkW cR cY m0 m1 m2) (ci := 1) (q0 := 0) (rest := []) ⟨hx, hb, hml, hown, hts⟩ (cM_put l D cR cY m0 m1 m2 ro11 sz11 op11 x1 tk11 la11 li11 bt11 mn11 41 (show vp_in sz11 3000 from by rw [show sz11 = sz + 1 from congrArg (fun z : MSt => z.2.1) eu11]; exact (h2 c1).2)) (cwV 1 hts gX1_start_X1_put rfl rfl rfl (by decide +kernel) ⟨Nat.le_of_ble_eq_true rfl, Nat.le_of_ble_eq_true rfl⟩) hK hP hD hS rfl rfl rfl hl.1 rfl (Nat.le_of_ble_eq_true rfl) dX1_start_58 ⟨Nat.zero_le _, Nat.zero_le _⟩ (fun u19 H locs hu19 hP hS hzu19 hku19 => ?_)
        obtain ⟨ro19, sz19, op19, kd19, tk19, la19, li19, bt19, mn19⟩ := u19
        have eu19 : (ro19, sz19, op19, kd19, tk19, la19, li19, bt19, mn19) = mk_put (ro11, sz11, op11, x1, tk11, la11, li11, bt11, mn11) 41 := hu19
        have hD : va_D A (mkW cR cY m0 m1 m2 (ro19, sz19, op19, kd19, tk19, la19, li19, bt19, mn19)) := kk_D_same hD rfl
        have hres : (ro19, sz19, op19, kd19, tk19, la19, li19, bt19, mn19) = mk_start (ro, sz, op, kd, tk, la, li, bt, mn) x1 := by
          first | rfl | (simp only [mk_start, mk_sk, mk_fb, ← eu11, ← eu19, if_neg c1, if_pos c12, if_neg (not_not_intro c13)]; done) | (simp [mk_start, mk_sk, mk_fb, ← eu11, ← eu19, if_neg c1, if_pos c12, if_neg (not_not_intro c13)]; done)
        exact W.vret hx hb hr (fun t ht hW => ⟨⟨(ro19, sz19, op19, kd19, tk19, la19, li19, bt19, mn19), rfl, hres, by show va_P D vwCl _ t.heap; rw [ht]; exact hP⟩, hS.F ht⟩) hS.2.2 dX1_start_61
    · refine lv_bipush (v := 40) hx hb dX1_start_21 (by decide) ?_
      refine lv_goto (tgt := 58) hx hb dX1_start_23 (by decide) ?_
      refine kk_mutV (cs := mkW cR cY m0 m1 m2) (ci := 1) (q0 := 0) (rest := []) ⟨hx, hb, hml, hown, hts⟩ (cM_put l D cR cY m0 m1 m2 ro11 sz11 op11 x1 tk11 la11 li11 bt11 mn11 40 (show vp_in sz11 3000 from by rw [show sz11 = sz + 1 from congrArg (fun z : MSt => z.2.1) eu11]; exact (h2 c1).2)) (cwV 1 hts gX1_start_X1_put rfl rfl rfl (by decide +kernel) ⟨Nat.le_of_ble_eq_true rfl, Nat.le_of_ble_eq_true rfl⟩) hK hP hD hS rfl rfl rfl hl.1 rfl (Nat.le_of_ble_eq_true rfl) dX1_start_58 ⟨Nat.zero_le _, Nat.zero_le _⟩ (fun u20 H locs hu20 hP hS hzu20 hku20 => ?_)
      obtain ⟨ro20, sz20, op20, kd20, tk20, la20, li20, bt20, mn20⟩ := u20
      have eu20 : (ro20, sz20, op20, kd20, tk20, la20, li20, bt20, mn20) = mk_put (ro11, sz11, op11, x1, tk11, la11, li11, bt11, mn11) 40 := hu20
      have hD : va_D A (mkW cR cY m0 m1 m2 (ro20, sz20, op20, kd20, tk20, la20, li20, bt20, mn20)) := kk_D_same hD rfl
      have hres : (ro20, sz20, op20, kd20, tk20, la20, li20, bt20, mn20) = mk_start (ro, sz, op, kd, tk, la, li, bt, mn) x1 := by
        first | rfl | (simp only [mk_start, mk_sk, mk_fb, ← eu11, ← eu20, if_neg c1, if_neg (not_not_intro c12)]; done) | (simp [mk_start, mk_sk, mk_fb, ← eu11, ← eu20, if_neg c1, if_neg (not_not_intro c12)]; done)
      exact W.vret hx hb hr (fun t ht hW => ⟨⟨(ro20, sz20, op20, kd20, tk20, la20, li20, bt20, mn20), rfl, hres, by show va_P D vwCl _ t.heap; rw [ht]; exact hP⟩, hS.F ht⟩) hS.2.2 dX1_start_61
set_option maxHeartbeats 4000000 in
set_option maxRecDepth 100000 in
theorem cM_begin (l : Launch) (D : va_G) (cR cY : ClassId) (m0 m1 m2 : Nat) (ro : Nat → Int32) (sz op kd tk la li : Int32) (bt : Nat → Int32) (mn : Int32) (x1 : Int32) (hz : mk_ok sz) : mkI l yX1_begin wsX1_begin ({ frames := 2, cells := 0, slots := 0, locals := 42 }) D cR cY m0 m1 m2 (ro, sz, op, kd, tk, la, li, bt, mn) [.int x1] (mk_begin (ro, sz, op, kd, tk, la, li, bt, mn) x1).1 (mk_begin (ro, sz, op, kd, tk, la, li, bt, mn) x1).2 := by
  refine kk_of (cc := cX1_begin) (maxL := 2) (ret := (some .boolean)) (by decide) rfl (Nat.le_of_ble_eq_true rfl) ?_
  intro p e s m below meth c ls hx hb hr hts hown hlocks hml hnm hP hK hD hl
  have hown : s.vm.findClass RX1 = some m.cls := hown
  have hl : lv_has ls 2 [(0, .ref m0), (1, .int x1)] := hl
  have hin : ∀ w ∈ wsX10, w ∈ wsX1_begin := by decide +kernel
  have lk23 := hts (.fieldLink RX1 23 "EventLineDeskModel" "size" "I") (by decide +kernel)
  have lk13 := hts (.fieldLink RX1 13 "EventLineDeskModel" "kind" "I") (by decide +kernel)
  generalize hAe : kk_A (mkW cR cY m0 m1 m2 (ro, sz, op, kd, tk, la, li, bt, mn)) = A at hD ⊢
  have hS : va_S A s.heap s.heap [] := va_S.rf
  refine lv_iload_n hx hb dX1_begin_0 rfl (lv_at hl 1 rfl) ?_
  refine lv_if_lt (tgt := 34) hx hb dX1_begin_1 (by decide) (fun c1 => ?_) (fun c1 => ?_)
  · refine lv_iconst (v := 0) hx hb dX1_begin_34 (by decide) ?_
    have hres : 0 = (mk_begin (ro, sz, op, kd, tk, la, li, bt, mn) x1).1 := by
      first | rfl | (simp only [mk_begin, if_pos c1]; done) | (simp [mk_begin, if_pos c1]; done)
    have hre2 : (ro, sz, op, kd, tk, la, li, bt, mn) = (mk_begin (ro, sz, op, kd, tk, la, li, bt, mn) x1).2 := by
      first | rfl | (simp only [mk_begin, if_pos c1]; done) | (simp [mk_begin, if_pos c1]; done)
    exact W.zret (v := 0) (ty := .boolean) hx hb hr rfl (fun t ht hW => ⟨⟨0, (ro, sz, op, kd, tk, la, li, bt, mn), rfl, ⟨hres, hre2⟩, by show va_P D vwCl _ t.heap; rw [ht]; exact hP⟩, hS.F ht⟩) hS.2.2 dX1_begin_35
  · refine lv_iload_n hx hb dX1_begin_4 rfl (lv_at hl 1 rfl) ?_
    refine lv_iconst (v := 3) hx hb dX1_begin_5 (by decide) ?_
    refine lv_icmp_gt (tgt := 34) hx hb dX1_begin_6 (by decide) (fun c2 => ?_) (fun c2 => ?_)
    · refine lv_iconst (v := 0) hx hb dX1_begin_34 (by decide) ?_
      have hres : 0 = (mk_begin (ro, sz, op, kd, tk, la, li, bt, mn) x1).1 := by
        first | rfl | (simp only [mk_begin, if_neg c1, if_pos c2]; done) | (simp [mk_begin, if_neg c1, if_pos c2]; done)
      have hre2 : (ro, sz, op, kd, tk, la, li, bt, mn) = (mk_begin (ro, sz, op, kd, tk, la, li, bt, mn) x1).2 := by
        first | rfl | (simp only [mk_begin, if_neg c1, if_pos c2]; done) | (simp [mk_begin, if_neg c1, if_pos c2]; done)
      exact W.zret (v := 0) (ty := .boolean) hx hb hr rfl (fun t ht hW => ⟨⟨0, (ro, sz, op, kd, tk, la, li, bt, mn), rfl, ⟨hres, hre2⟩, by show va_P D vwCl _ t.heap; rw [ht]; exact hP⟩, hS.F ht⟩) hS.2.2 dX1_begin_35
    · refine lv_aload_n hx hb dX1_begin_9 rfl (lv_at hl 0 rfl) ?_
      refine va_get (D := D) (ci := 1) (v := .int sz) (C := RX1) (T := TX1) (N := 9) hx hb hts hin hown hK hP 0 rfl rfl 1 (by decide) lk23 (fun _ h9 => h9) rfl dX1_begin_10 ?_
      refine lv_aload_n hx hb dX1_begin_13 rfl (lv_at hl 0 rfl) ?_
      refine va_get (D := D) (ci := 1) (v := .int kd) (C := RX1) (T := TX1) (N := 9) hx hb hts hin hown hK hP 0 rfl rfl 3 (by decide) lk13 (fun _ h9 => h9) rfl dX1_begin_14 ?_
      refine lv_if_lt (tgt := 24) hx hb dX1_begin_17 (by decide) (fun c3 => ?_) (fun c3 => ?_)
      · refine lv_iconst (v := 0) hx hb dX1_begin_24 (by decide) ?_
        refine lv_iadd hx hb dX1_begin_25 ?_
        refine lv_topi (fun t4 et4 => ?_)
        refine lv_iconst (v := 2) hx hb dX1_begin_26 (by decide) ?_
        refine lv_iadd hx hb dX1_begin_27 ?_
        refine lv_topi (fun t5 et5 => ?_)
        refine lv_sipush (v := 3000) hx hb dX1_begin_28 (by decide) ?_
        refine lv_icmp_le (tgt := 36) hx hb dX1_begin_31 (by decide) (fun c6 => ?_) (fun c6 => ?_)
        · refine lv_aload_n hx hb dX1_begin_36 rfl (lv_at hl 0 rfl) ?_
          refine lv_iload_n hx hb dX1_begin_37 rfl (lv_at hl 1 rfl) ?_
          refine kk_mutV (cs := mkW cR cY m0 m1 m2) (ci := 1) (q0 := 0) (rest := []) ⟨hx, hb, hml, hown, hts⟩ (cM_start l D cR cY m0 m1 m2 ro sz op kd tk la li bt mn x1 (fun _ => mk_inA hz (by have h := c6; rw [et5, et4] at h; exact h)) (fun h => absurd c3 h)) (cwV 1 hts gX1_begin_X1_start rfl rfl rfl (by decide +kernel) ⟨Nat.le_of_ble_eq_true rfl, Nat.le_of_ble_eq_true rfl⟩) hK hP hD hS rfl rfl rfl hl.1 rfl (Nat.le_of_ble_eq_true rfl) dX1_begin_38 ⟨Nat.zero_le _, Nat.zero_le _⟩ (fun u7 H locs hu7 hP hS hzu7 hku7 => ?_)
          obtain ⟨ro7, sz7, op7, kd7, tk7, la7, li7, bt7, mn7⟩ := u7
          have eu7 : (ro7, sz7, op7, kd7, tk7, la7, li7, bt7, mn7) = mk_start (ro, sz, op, kd, tk, la, li, bt, mn) x1 := hu7
          have hD : va_D A (mkW cR cY m0 m1 m2 (ro7, sz7, op7, kd7, tk7, la7, li7, bt7, mn7)) := kk_D_same hD rfl
          refine lv_iconst (v := 1) hx hb dX1_begin_41 (by decide) ?_
          have hres : 1 = (mk_begin (ro, sz, op, kd, tk, la, li, bt, mn) x1).1 := by
            subst et5 et4
            first | rfl | (simp only [mk_begin, ← eu7, if_neg c1, if_neg c2, if_pos c3, if_pos c6]; done) | (simp [mk_begin, ← eu7, if_neg c1, if_neg c2, if_pos c3, if_pos c6]; done)
          have hre2 : (ro7, sz7, op7, kd7, tk7, la7, li7, bt7, mn7) = (mk_begin (ro, sz, op, kd, tk, la, li, bt, mn) x1).2 := by
            subst et5 et4
            first | rfl | (simp only [mk_begin, ← eu7, if_neg c1, if_neg c2, if_pos c3, if_pos c6]; done) | (simp [mk_begin, ← eu7, if_neg c1, if_neg c2, if_pos c3, if_pos c6]; done)
          exact W.zret (v := 1) (ty := .boolean) hx hb hr rfl (fun t ht hW => ⟨⟨1, (ro7, sz7, op7, kd7, tk7, la7, li7, bt7, mn7), rfl, ⟨hres, hre2⟩, by show va_P D vwCl _ t.heap; rw [ht]; exact hP⟩, hS.F ht⟩) hS.2.2 dX1_begin_42
        · refine lv_iconst (v := 0) hx hb dX1_begin_34 (by decide) ?_
          have hres : 0 = (mk_begin (ro, sz, op, kd, tk, la, li, bt, mn) x1).1 := by
            subst et5 et4
            first | rfl | (simp only [mk_begin, if_neg c1, if_neg c2, if_pos c3, if_neg c6]; done) | (simp [mk_begin, if_neg c1, if_neg c2, if_pos c3, if_neg c6]; done)
          have hre2 : (ro, sz, op, kd, tk, la, li, bt, mn) = (mk_begin (ro, sz, op, kd, tk, la, li, bt, mn) x1).2 := by
            subst et5 et4
            first | rfl | (simp only [mk_begin, if_neg c1, if_neg c2, if_pos c3, if_neg c6]; done) | (simp [mk_begin, if_neg c1, if_neg c2, if_pos c3, if_neg c6]; done)
          exact W.zret (v := 0) (ty := .boolean) hx hb hr rfl (fun t ht hW => ⟨⟨0, (ro, sz, op, kd, tk, la, li, bt, mn), rfl, ⟨hres, hre2⟩, by show va_P D vwCl _ t.heap; rw [ht]; exact hP⟩, hS.F ht⟩) hS.2.2 dX1_begin_35
      · refine lv_iconst (v := 1) hx hb dX1_begin_20 (by decide) ?_
        refine lv_goto (tgt := 25) hx hb dX1_begin_21 (by decide) ?_
        refine lv_iadd hx hb dX1_begin_25 ?_
        refine lv_topi (fun t8 et8 => ?_)
        refine lv_iconst (v := 2) hx hb dX1_begin_26 (by decide) ?_
        refine lv_iadd hx hb dX1_begin_27 ?_
        refine lv_topi (fun t9 et9 => ?_)
        refine lv_sipush (v := 3000) hx hb dX1_begin_28 (by decide) ?_
        refine lv_icmp_le (tgt := 36) hx hb dX1_begin_31 (by decide) (fun c10 => ?_) (fun c10 => ?_)
        · refine lv_aload_n hx hb dX1_begin_36 rfl (lv_at hl 0 rfl) ?_
          refine lv_iload_n hx hb dX1_begin_37 rfl (lv_at hl 1 rfl) ?_
          refine kk_mutV (cs := mkW cR cY m0 m1 m2) (ci := 1) (q0 := 0) (rest := []) ⟨hx, hb, hml, hown, hts⟩ (cM_start l D cR cY m0 m1 m2 ro sz op kd tk la li bt mn x1 (fun h => absurd h c3) (fun _ => mk_inB hz (by have h := c10; rw [et9, et8] at h; exact h))) (cwV 1 hts gX1_begin_X1_start rfl rfl rfl (by decide +kernel) ⟨Nat.le_of_ble_eq_true rfl, Nat.le_of_ble_eq_true rfl⟩) hK hP hD hS rfl rfl rfl hl.1 rfl (Nat.le_of_ble_eq_true rfl) dX1_begin_38 ⟨Nat.zero_le _, Nat.zero_le _⟩ (fun u11 H locs hu11 hP hS hzu11 hku11 => ?_)
          obtain ⟨ro11, sz11, op11, kd11, tk11, la11, li11, bt11, mn11⟩ := u11
          have eu11 : (ro11, sz11, op11, kd11, tk11, la11, li11, bt11, mn11) = mk_start (ro, sz, op, kd, tk, la, li, bt, mn) x1 := hu11
          have hD : va_D A (mkW cR cY m0 m1 m2 (ro11, sz11, op11, kd11, tk11, la11, li11, bt11, mn11)) := kk_D_same hD rfl
          refine lv_iconst (v := 1) hx hb dX1_begin_41 (by decide) ?_
          have hres : 1 = (mk_begin (ro, sz, op, kd, tk, la, li, bt, mn) x1).1 := by
            subst et9 et8
            first | rfl | (simp only [mk_begin, ← eu11, if_neg c1, if_neg c2, if_neg c3, if_pos c10]; done) | (simp [mk_begin, ← eu11, if_neg c1, if_neg c2, if_neg c3, if_pos c10]; done)
          have hre2 : (ro11, sz11, op11, kd11, tk11, la11, li11, bt11, mn11) = (mk_begin (ro, sz, op, kd, tk, la, li, bt, mn) x1).2 := by
            subst et9 et8
            first | rfl | (simp only [mk_begin, ← eu11, if_neg c1, if_neg c2, if_neg c3, if_pos c10]; done) | (simp [mk_begin, ← eu11, if_neg c1, if_neg c2, if_neg c3, if_pos c10]; done)
          exact W.zret (v := 1) (ty := .boolean) hx hb hr rfl (fun t ht hW => ⟨⟨1, (ro11, sz11, op11, kd11, tk11, la11, li11, bt11, mn11), rfl, ⟨hres, hre2⟩, by show va_P D vwCl _ t.heap; rw [ht]; exact hP⟩, hS.F ht⟩) hS.2.2 dX1_begin_42
        · refine lv_iconst (v := 0) hx hb dX1_begin_34 (by decide) ?_
          have hres : 0 = (mk_begin (ro, sz, op, kd, tk, la, li, bt, mn) x1).1 := by
            subst et9 et8
            first | rfl | (simp only [mk_begin, if_neg c1, if_neg c2, if_neg c3, if_neg c10]; done) | (simp [mk_begin, if_neg c1, if_neg c2, if_neg c3, if_neg c10]; done)
          have hre2 : (ro, sz, op, kd, tk, la, li, bt, mn) = (mk_begin (ro, sz, op, kd, tk, la, li, bt, mn) x1).2 := by
            subst et9 et8
            first | rfl | (simp only [mk_begin, if_neg c1, if_neg c2, if_neg c3, if_neg c10]; done) | (simp [mk_begin, if_neg c1, if_neg c2, if_neg c3, if_neg c10]; done)
          exact W.zret (v := 0) (ty := .boolean) hx hb hr rfl (fun t ht hW => ⟨⟨0, (ro, sz, op, kd, tk, la, li, bt, mn), rfl, ⟨hres, hre2⟩, by show va_P D vwCl _ t.heap; rw [ht]; exact hP⟩, hS.F ht⟩) hS.2.2 dX1_begin_35
set_option maxHeartbeats 4000000 in
set_option maxRecDepth 100000 in
theorem cM_end (l : Launch) (D : va_G) (cR cY : ClassId) (m0 m1 m2 : Nat) (ro : Nat → Int32) (sz op kd tk la li : Int32) (bt : Nat → Int32) (mn : Int32)  (hz : ¬ kd < 0 → vp_in sz 3000) : mkI l yX1_end wsX1_end ({ frames := 1, cells := 0, slots := 0, locals := 20 }) D cR cY m0 m1 m2 (ro, sz, op, kd, tk, la, li, bt, mn) [] (mk_end (ro, sz, op, kd, tk, la, li, bt, mn)).1 (mk_end (ro, sz, op, kd, tk, la, li, bt, mn)).2 := by
  refine kk_of (cc := cX1_end) (maxL := 2) (ret := (some .int)) (by decide) rfl (Nat.le_of_ble_eq_true rfl) ?_
  intro p e s m below meth c ls hx hb hr hts hown hlocks hml hnm hP hK hD hl
  have hown : s.vm.findClass RX1 = some m.cls := hown
  have hl : lv_has ls 2 [(0, .ref m0)] := hl
  have hin : ∀ w ∈ wsX10, w ∈ wsX1_end := by decide +kernel
  have lk13 := hts (.fieldLink RX1 13 "EventLineDeskModel" "kind" "I") (by decide +kernel)
  generalize hAe : kk_A (mkW cR cY m0 m1 m2 (ro, sz, op, kd, tk, la, li, bt, mn)) = A at hD ⊢
  have hS : va_S A s.heap s.heap [] := va_S.rf
  refine lv_aload_n hx hb dX1_end_0 rfl (lv_at hl 0 rfl) ?_
  refine va_get (D := D) (ci := 1) (v := .int kd) (C := RX1) (T := TX1) (N := 9) hx hb hts hin hown hK hP 0 rfl rfl 3 (by decide) lk13 (fun _ h9 => h9) rfl dX1_end_1 ?_
  refine lv_istore_n (lv' := [(1, .int kd), (0, .ref m0)]) hx hb dX1_end_4 rfl hl (by decide) rfl (fun ls hl => ?_)
  refine lv_aload_n hx hb dX1_end_5 rfl (lv_at hl 1 rfl) ?_
  refine va_get (D := D) (ci := 1) (v := .int kd) (C := RX1) (T := TX1) (N := 9) hx hb hts hin hown hK hP 0 rfl rfl 3 (by decide) lk13 (fun _ h9 => h9) rfl dX1_end_6 ?_
  refine lv_if_lt (tgt := 16) hx hb dX1_end_9 (by decide) (fun c1 => ?_) (fun c1 => ?_)
  · refine lv_iload_n hx hb dX1_end_16 rfl (lv_at hl 0 rfl) ?_
    have hres : kd = (mk_end (ro, sz, op, kd, tk, la, li, bt, mn)).1 := by
      first | rfl | (simp only [mk_end, if_pos c1]; done) | (simp [mk_end, if_pos c1]; done)
    have hre2 : (ro, sz, op, kd, tk, la, li, bt, mn) = (mk_end (ro, sz, op, kd, tk, la, li, bt, mn)).2 := by
      first | rfl | (simp only [mk_end, if_pos c1]; done) | (simp [mk_end, if_pos c1]; done)
    exact W.iret (v := kd) hx hb hr (fun t ht hW => ⟨⟨kd, (ro, sz, op, kd, tk, la, li, bt, mn), rfl, ⟨hres, hre2⟩, by show va_P D vwCl _ t.heap; rw [ht]; exact hP⟩, hS.F ht⟩) hS.2.2 dX1_end_17
  · refine lv_aload_n hx hb dX1_end_12 rfl (lv_at hl 1 rfl) ?_
    refine kk_mutV (cs := mkW cR cY m0 m1 m2) (ci := 1) (q0 := 0) (rest := []) ⟨hx, hb, hml, hown, hts⟩ (cM_close l D cR cY m0 m1 m2 ro sz op kd tk la li bt mn (hz c1)) (cwV 0 hts gX1_end_X1_close rfl rfl rfl (by decide +kernel) ⟨Nat.le_of_ble_eq_true rfl, Nat.le_of_ble_eq_true rfl⟩) hK hP hD hS rfl rfl rfl hl.1 rfl (Nat.le_of_ble_eq_true rfl) dX1_end_13 ⟨Nat.zero_le _, Nat.zero_le _⟩ (fun u2 H locs hu2 hP hS hzu2 hku2 => ?_)
    obtain ⟨ro2, sz2, op2, kd2, tk2, la2, li2, bt2, mn2⟩ := u2
    have eu2 : (ro2, sz2, op2, kd2, tk2, la2, li2, bt2, mn2) = mk_close (ro, sz, op, kd, tk, la, li, bt, mn) := hu2
    have hD : va_D A (mkW cR cY m0 m1 m2 (ro2, sz2, op2, kd2, tk2, la2, li2, bt2, mn2)) := kk_D_same hD rfl
    refine lv_iload_n hx hb dX1_end_16 rfl (lv_at hl 0 rfl) ?_
    have hres : kd = (mk_end (ro, sz, op, kd, tk, la, li, bt, mn)).1 := by
      first | rfl | (simp only [mk_end, ← eu2, if_neg c1]; done) | (simp [mk_end, ← eu2, if_neg c1]; done)
    have hre2 : (ro2, sz2, op2, kd2, tk2, la2, li2, bt2, mn2) = (mk_end (ro, sz, op, kd, tk, la, li, bt, mn)).2 := by
      first | rfl | (simp only [mk_end, ← eu2, if_neg c1]; done) | (simp [mk_end, ← eu2, if_neg c1]; done)
    exact W.iret (v := kd) hx hb hr (fun t ht hW => ⟨⟨kd, (ro2, sz2, op2, kd2, tk2, la2, li2, bt2, mn2), rfl, ⟨hres, hre2⟩, by show va_P D vwCl _ t.heap; rw [ht]; exact hP⟩, hS.F ht⟩) hS.2.2 dX1_end_17
set_option maxHeartbeats 4000000 in
set_option maxRecDepth 100000 in
theorem cM_mark (l : Launch) (D : va_G) (cR cY : ClassId) (m0 m1 m2 : Nat) (ro : Nat → Int32) (sz op kd tk la li : Int32) (bt : Nat → Int32) (mn : Int32)  : mkR l yX1_mark wsX1_mark ({ frames := 0, cells := 0, slots := 0, locals := 0 }) D cR cY m0 m1 m2 (ro, sz, op, kd, tk, la, li, bt, mn) [] (mk_mark (ro, sz, op, kd, tk, la, li, bt, mn)) := by
  refine kk_of (cc := cX1_mark) (maxL := 1) (ret := (some .int)) (by decide) rfl (Nat.le_of_ble_eq_true rfl) ?_
  intro p e s m below meth c ls hx hb hr hts hown hlocks hml hnm hP hK hD hl
  have hown : s.vm.findClass RX1 = some m.cls := hown
  have hl : lv_has ls 1 [(0, .ref m0)] := hl
  have hin : ∀ w ∈ wsX10, w ∈ wsX1_mark := by decide +kernel
  have lk13 := hts (.fieldLink RX1 13 "EventLineDeskModel" "kind" "I") (by decide +kernel)
  have lk50 := hts (.fieldLink RX1 50 "EventLineDeskModel" "taken" "I") (by decide +kernel)
  have lk23 := hts (.fieldLink RX1 23 "EventLineDeskModel" "size" "I") (by decide +kernel)
  refine lv_aload_n hx hb dX1_mark_0 rfl (lv_at hl 0 rfl) ?_
  refine va_get (D := D) (ci := 1) (v := .int kd) (C := RX1) (T := TX1) (N := 9) hx hb hts hin hown hK hP 0 rfl rfl 3 (by decide) lk13 (fun _ h9 => h9) rfl dX1_mark_1 ?_
  refine lv_if_lt (tgt := 11) hx hb dX1_mark_4 (by decide) (fun c1 => ?_) (fun c1 => ?_)
  · refine lv_aload_n hx hb dX1_mark_11 rfl (lv_at hl 0 rfl) ?_
    refine va_get (D := D) (ci := 1) (v := .int tk) (C := RX1) (T := TX1) (N := 9) hx hb hts hin hown hK hP 0 rfl rfl 4 (by decide) lk50 (fun _ h9 => h9) rfl dX1_mark_12 ?_
    refine lv_aload_n hx hb dX1_mark_15 rfl (lv_at hl 0 rfl) ?_
    refine va_get (D := D) (ci := 1) (v := .int sz) (C := RX1) (T := TX1) (N := 9) hx hb hts hin hown hK hP 0 rfl rfl 1 (by decide) lk23 (fun _ h9 => h9) rfl dX1_mark_16 ?_
    refine lv_iadd hx hb dX1_mark_19 ?_
    refine lv_topi (fun t2 et2 => ?_)
    have hres : t2 = mk_mark (ro, sz, op, kd, tk, la, li, bt, mn) := by
      subst et2
      first | rfl | (simp only [mk_mark, if_pos c1]; done) | (simp [mk_mark, if_pos c1]; done)
    exact W.iret (v := t2) hx hb hr (fun t ht hW => ⟨congrArg (fun z => Outcome.returned (some (Value.int z))) hres, ht⟩) (fun q h => absurd h List.not_mem_nil) dX1_mark_20
  · refine lv_iconst (v := (-1)) hx hb dX1_mark_7 (by decide) ?_
    refine lv_goto (tgt := 20) hx hb dX1_mark_8 (by decide) ?_
    have hres : (-1) = mk_mark (ro, sz, op, kd, tk, la, li, bt, mn) := by
      first | rfl | (simp only [mk_mark, if_neg c1]; done) | (simp [mk_mark, if_neg c1]; done)
    exact W.iret (v := (-1)) hx hb hr (fun t ht hW => ⟨congrArg (fun z => Outcome.returned (some (Value.int z))) hres, ht⟩) (fun q h => absurd h List.not_mem_nil) dX1_mark_20
set_option maxHeartbeats 4000000 in
set_option maxRecDepth 100000 in
theorem cM_back (l : Launch) (D : va_G) (cR cY : ClassId) (m0 m1 m2 : Nat) (ro : Nat → Int32) (sz op kd tk la li : Int32) (bt : Nat → Int32) (mn : Int32) (x1 : Int32) (hz : mk_ok sz) : mkI l yX1_back wsX1_back ({ frames := 0, cells := 0, slots := 0, locals := 0 }) D cR cY m0 m1 m2 (ro, sz, op, kd, tk, la, li, bt, mn) [.int x1] (mk_back (ro, sz, op, kd, tk, la, li, bt, mn) x1).1 (mk_back (ro, sz, op, kd, tk, la, li, bt, mn) x1).2 := by
  refine kk_of (cc := cX1_back) (maxL := 4) (ret := (some .boolean)) (by decide) rfl (Nat.le_of_ble_eq_true rfl) ?_
  intro p e s m below meth c ls hx hb hr hts hown hlocks hml hnm hP hK hD hl
  have hown : s.vm.findClass RX1 = some m.cls := hown
  have hl : lv_has ls 4 [(0, .ref m0), (1, .int x1)] := hl
  have hin : ∀ w ∈ wsX10, w ∈ wsX1_back := by decide +kernel
  have lk50 := hts (.fieldLink RX1 50 "EventLineDeskModel" "taken" "I") (by decide +kernel)
  have lk23 := hts (.fieldLink RX1 23 "EventLineDeskModel" "size" "I") (by decide +kernel)
  have lk7 := hts (.fieldLink RX1 7 "EventLineDeskModel" "row" "[I") (by decide +kernel)
  have lk17 := hts (.fieldLink RX1 17 "EventLineDeskModel" "last" "I") (by decide +kernel)
  have lk26 := hts (.fieldLink RX1 26 "EventLineDeskModel" "open" "I") (by decide +kernel)
  have lk13 := hts (.fieldLink RX1 13 "EventLineDeskModel" "kind" "I") (by decide +kernel)
  generalize hAe : kk_A (mkW cR cY m0 m1 m2 (ro, sz, op, kd, tk, la, li, bt, mn)) = A at hD ⊢
  have hS : va_S A s.heap s.heap [] := va_S.rf
  refine lv_iload_n hx hb dX1_back_0 rfl (lv_at hl 1 rfl) ?_
  refine lv_aload_n hx hb dX1_back_1 rfl (lv_at hl 0 rfl) ?_
  refine va_get (D := D) (ci := 1) (v := .int tk) (C := RX1) (T := TX1) (N := 9) hx hb hts hin hown hK hP 0 rfl rfl 4 (by decide) lk50 (fun _ h9 => h9) rfl dX1_back_2 ?_
  refine lv_isub hx hb dX1_back_5 ?_
  refine lv_topi (fun t1 et1 => ?_)
  refine lv_istore_n (lv' := [(2, .int t1), (0, .ref m0), (1, .int x1)]) hx hb dX1_back_6 rfl hl (by decide) rfl (fun ls hl => ?_)
  refine lv_iload_n hx hb dX1_back_7 rfl (lv_at hl 0 rfl) ?_
  refine lv_if_lt (tgt := 19) hx hb dX1_back_8 (by decide) (fun c2 => ?_) (fun c2 => ?_)
  · refine lv_iconst (v := 0) hx hb dX1_back_19 (by decide) ?_
    have hres : 0 = (mk_back (ro, sz, op, kd, tk, la, li, bt, mn) x1).1 := by
      subst et1
      first | rfl | (simp only [mk_back, mk_back2, mk_b2, if_pos c2]; done) | (simp [mk_back, mk_back2, mk_b2, if_pos c2]; done)
    have hre2 : (ro, sz, op, kd, tk, la, li, bt, mn) = (mk_back (ro, sz, op, kd, tk, la, li, bt, mn) x1).2 := by
      subst et1
      first | rfl | (simp only [mk_back, mk_back2, mk_b2, if_pos c2]; done) | (simp [mk_back, mk_back2, mk_b2, if_pos c2]; done)
    exact W.zret (v := 0) (ty := .boolean) hx hb hr rfl (fun t ht hW => ⟨⟨0, (ro, sz, op, kd, tk, la, li, bt, mn), rfl, ⟨hres, hre2⟩, by show va_P D vwCl _ t.heap; rw [ht]; exact hP⟩, hS.F ht⟩) hS.2.2 dX1_back_20
  · refine lv_iload_n hx hb dX1_back_11 rfl (lv_at hl 0 rfl) ?_
    refine lv_aload_n hx hb dX1_back_12 rfl (lv_at hl 1 rfl) ?_
    refine va_get (D := D) (ci := 1) (v := .int sz) (C := RX1) (T := TX1) (N := 9) hx hb hts hin hown hK hP 0 rfl rfl 1 (by decide) lk23 (fun _ h9 => h9) rfl dX1_back_13 ?_
    refine lv_icmp_le (tgt := 21) hx hb dX1_back_16 (by decide) (fun c3 => ?_) (fun c3 => ?_)
    · refine lv_iload_n hx hb dX1_back_21 rfl (lv_at hl 0 rfl) ?_
      refine lv_if_le (tgt := 36) hx hb dX1_back_22 (by decide) (fun c4 => ?_) (fun c4 => ?_)
      · refine lv_aload_n hx hb dX1_back_36 rfl (lv_at hl 1 rfl) ?_
        refine va_get (D := D) (ci := 1) (v := .int la) (C := RX1) (T := TX1) (N := 9) hx hb hts hin hown hK hP 0 rfl rfl 5 (by decide) lk17 (fun _ h9 => h9) rfl dX1_back_37 ?_
        refine lv_istore_n (lv' := [(3, .int la), (2, .int t1), (0, .ref m0), (1, .int x1)]) hx hb dX1_back_40 rfl hl (by decide) rfl (fun ls hl => ?_)
        refine lv_iload_n hx hb dX1_back_41 rfl (lv_at hl 0 rfl) ?_
        refine lv_bipush (v := 10) hx hb dX1_back_42 (by decide) ?_
        refine lv_icmp_eq (tgt := 49) hx hb dX1_back_44 (by decide) (fun c5 => ?_) (fun c5 => ?_)
        · refine lv_aload_n hx hb dX1_back_49 rfl (lv_at hl 2 rfl) ?_
          refine lv_iload_n hx hb dX1_back_50 rfl (lv_at hl 1 rfl) ?_
          refine va_put (D := D) (ci := 1) (v := .int t1) (ty := .int) (C := RX1) (T := TX1) (N := 9) hx hb hts hin tyX1 tyX1_ok nmX1 hown hK hP hD hS 0 rfl rfl 1 (by decide) lk23 (fun _ h9 => h9) rfl (by decide +kernel) rfl rfl (Nat.le_of_ble_eq_true rfl) dX1_back_51 (fun H locs hP hD hS => ?_)
          have hP : va_P D vwCl (mkW cR cY m0 m1 m2 (ro, t1, op, kd, tk, la, li, bt, mn)) H := hP
          have hD : va_D A (mkW cR cY m0 m1 m2 (ro, t1, op, kd, tk, la, li, bt, mn)) := hD
          refine lv_aload_n hx hb dX1_back_54 rfl (lv_at hl 2 rfl) ?_
          refine lv_iconst (v := 0) hx hb dX1_back_55 (by decide) ?_
          refine va_put (D := D) (ci := 1) (v := .int 0) (ty := .int) (C := RX1) (T := TX1) (N := 9) hx hb hts hin tyX1 tyX1_ok nmX1 hown hK hP hD hS 0 rfl rfl 2 (by decide) lk26 (fun _ h9 => h9) rfl (by decide +kernel) rfl rfl (Nat.le_of_ble_eq_true rfl) dX1_back_56 (fun H locs hP hD hS => ?_)
          have hP : va_P D vwCl (mkW cR cY m0 m1 m2 (ro, t1, 0, kd, tk, la, li, bt, mn)) H := hP
          have hD : va_D A (mkW cR cY m0 m1 m2 (ro, t1, 0, kd, tk, la, li, bt, mn)) := hD
          refine lv_aload_n hx hb dX1_back_59 rfl (lv_at hl 2 rfl) ?_
          refine lv_iconst (v := (-1)) hx hb dX1_back_60 (by decide) ?_
          refine va_put (D := D) (ci := 1) (v := .int (-1)) (ty := .int) (C := RX1) (T := TX1) (N := 9) hx hb hts hin tyX1 tyX1_ok nmX1 hown hK hP hD hS 0 rfl rfl 3 (by decide) lk13 (fun _ h9 => h9) rfl (by decide +kernel) rfl rfl (Nat.le_of_ble_eq_true rfl) dX1_back_61 (fun H locs hP hD hS => ?_)
          have hP : va_P D vwCl (mkW cR cY m0 m1 m2 (ro, t1, 0, (-1), tk, la, li, bt, mn)) H := hP
          have hD : va_D A (mkW cR cY m0 m1 m2 (ro, t1, 0, (-1), tk, la, li, bt, mn)) := hD
          refine lv_iconst (v := 1) hx hb dX1_back_64 (by decide) ?_
          have hres : 1 = (mk_back (ro, sz, op, kd, tk, la, li, bt, mn) x1).1 := by
            subst et1
            first | rfl | (simp only [mk_back, mk_back2, mk_b2, if_neg c2, if_pos c3, if_pos c4, if_pos c5]; done) | (simp [mk_back, mk_back2, mk_b2, if_neg c2, if_pos c3, if_pos c4, if_pos c5]; done)
          have hre2 : (ro, t1, 0, (-1), tk, la, li, bt, mn) = (mk_back (ro, sz, op, kd, tk, la, li, bt, mn) x1).2 := by
            subst et1
            first | rfl | (simp only [mk_back, mk_back2, mk_b2, if_neg c2, if_pos c3, if_pos c4, if_pos c5]; done) | (simp [mk_back, mk_back2, mk_b2, if_neg c2, if_pos c3, if_pos c4, if_pos c5]; done)
          exact W.zret (v := 1) (ty := .boolean) hx hb hr rfl (fun t ht hW => ⟨⟨1, (ro, t1, 0, (-1), tk, la, li, bt, mn), rfl, ⟨hres, hre2⟩, by show va_P D vwCl _ t.heap; rw [ht]; exact hP⟩, hS.F ht⟩) hS.2.2 dX1_back_65
        · refine lv_iconst (v := 0) hx hb dX1_back_47 (by decide) ?_
          have hres : 0 = (mk_back (ro, sz, op, kd, tk, la, li, bt, mn) x1).1 := by
            subst et1
            first | rfl | (simp only [mk_back, mk_back2, mk_b2, if_neg c2, if_pos c3, if_pos c4, if_neg c5]; done) | (simp [mk_back, mk_back2, mk_b2, if_neg c2, if_pos c3, if_pos c4, if_neg c5]; done)
          have hre2 : (ro, sz, op, kd, tk, la, li, bt, mn) = (mk_back (ro, sz, op, kd, tk, la, li, bt, mn) x1).2 := by
            subst et1
            first | rfl | (simp only [mk_back, mk_back2, mk_b2, if_neg c2, if_pos c3, if_pos c4, if_neg c5]; done) | (simp [mk_back, mk_back2, mk_b2, if_neg c2, if_pos c3, if_pos c4, if_neg c5]; done)
          exact W.zret (v := 0) (ty := .boolean) hx hb hr rfl (fun t ht hW => ⟨⟨0, (ro, sz, op, kd, tk, la, li, bt, mn), rfl, ⟨hres, hre2⟩, by show va_P D vwCl _ t.heap; rw [ht]; exact hP⟩, hS.F ht⟩) hS.2.2 dX1_back_48
      · refine lv_aload_n hx hb dX1_back_25 rfl (lv_at hl 1 rfl) ?_
        refine va_get (D := D) (ci := 1) (v := .ref m1) (C := RX1) (T := TX1) (N := 9) hx hb hts hin hown hK hP 0 rfl rfl 0 (by decide) lk7 (fun _ h9 => h9) rfl dX1_back_26 ?_
        refine lv_iload_n hx hb dX1_back_29 rfl (lv_at hl 0 rfl) ?_
        refine lv_iconst (v := 1) hx hb dX1_back_30 (by decide) ?_
        refine lv_isub hx hb dX1_back_31 ?_
        refine lv_topi (fun t6 et6 => ?_)
        refine va_iald hx hb hK hP 1 0 rfl rfl (by rw [et6]; exact mk_inK hz c3 c4) dX1_back_32 ?_
        refine lv_topi (fun t7 et7 => ?_)
        refine lv_goto (tgt := 40) hx hb dX1_back_33 (by decide) ?_
        refine lv_istore_n (lv' := [(3, .int t7), (2, .int t1), (0, .ref m0), (1, .int x1)]) hx hb dX1_back_40 rfl hl (by decide) rfl (fun ls hl => ?_)
        refine lv_iload_n hx hb dX1_back_41 rfl (lv_at hl 0 rfl) ?_
        refine lv_bipush (v := 10) hx hb dX1_back_42 (by decide) ?_
        refine lv_icmp_eq (tgt := 49) hx hb dX1_back_44 (by decide) (fun c8 => ?_) (fun c8 => ?_)
        · refine lv_aload_n hx hb dX1_back_49 rfl (lv_at hl 2 rfl) ?_
          refine lv_iload_n hx hb dX1_back_50 rfl (lv_at hl 1 rfl) ?_
          refine va_put (D := D) (ci := 1) (v := .int t1) (ty := .int) (C := RX1) (T := TX1) (N := 9) hx hb hts hin tyX1 tyX1_ok nmX1 hown hK hP hD hS 0 rfl rfl 1 (by decide) lk23 (fun _ h9 => h9) rfl (by decide +kernel) rfl rfl (Nat.le_of_ble_eq_true rfl) dX1_back_51 (fun H locs hP hD hS => ?_)
          have hP : va_P D vwCl (mkW cR cY m0 m1 m2 (ro, t1, op, kd, tk, la, li, bt, mn)) H := hP
          have hD : va_D A (mkW cR cY m0 m1 m2 (ro, t1, op, kd, tk, la, li, bt, mn)) := hD
          refine lv_aload_n hx hb dX1_back_54 rfl (lv_at hl 2 rfl) ?_
          refine lv_iconst (v := 0) hx hb dX1_back_55 (by decide) ?_
          refine va_put (D := D) (ci := 1) (v := .int 0) (ty := .int) (C := RX1) (T := TX1) (N := 9) hx hb hts hin tyX1 tyX1_ok nmX1 hown hK hP hD hS 0 rfl rfl 2 (by decide) lk26 (fun _ h9 => h9) rfl (by decide +kernel) rfl rfl (Nat.le_of_ble_eq_true rfl) dX1_back_56 (fun H locs hP hD hS => ?_)
          have hP : va_P D vwCl (mkW cR cY m0 m1 m2 (ro, t1, 0, kd, tk, la, li, bt, mn)) H := hP
          have hD : va_D A (mkW cR cY m0 m1 m2 (ro, t1, 0, kd, tk, la, li, bt, mn)) := hD
          refine lv_aload_n hx hb dX1_back_59 rfl (lv_at hl 2 rfl) ?_
          refine lv_iconst (v := (-1)) hx hb dX1_back_60 (by decide) ?_
          refine va_put (D := D) (ci := 1) (v := .int (-1)) (ty := .int) (C := RX1) (T := TX1) (N := 9) hx hb hts hin tyX1 tyX1_ok nmX1 hown hK hP hD hS 0 rfl rfl 3 (by decide) lk13 (fun _ h9 => h9) rfl (by decide +kernel) rfl rfl (Nat.le_of_ble_eq_true rfl) dX1_back_61 (fun H locs hP hD hS => ?_)
          have hP : va_P D vwCl (mkW cR cY m0 m1 m2 (ro, t1, 0, (-1), tk, la, li, bt, mn)) H := hP
          have hD : va_D A (mkW cR cY m0 m1 m2 (ro, t1, 0, (-1), tk, la, li, bt, mn)) := hD
          refine lv_iconst (v := 1) hx hb dX1_back_64 (by decide) ?_
          have hres : 1 = (mk_back (ro, sz, op, kd, tk, la, li, bt, mn) x1).1 := by
            subst et7 et6 et1
            first | rfl | (simp only [mk_back, mk_back2, mk_b2, if_neg c2, if_pos c3, if_neg c4, if_pos c8]; done) | (simp [mk_back, mk_back2, mk_b2, if_neg c2, if_pos c3, if_neg c4, if_pos c8]; done)
          have hre2 : (ro, t1, 0, (-1), tk, la, li, bt, mn) = (mk_back (ro, sz, op, kd, tk, la, li, bt, mn) x1).2 := by
            subst et7 et6 et1
            first | rfl | (simp only [mk_back, mk_back2, mk_b2, if_neg c2, if_pos c3, if_neg c4, if_pos c8]; done) | (simp [mk_back, mk_back2, mk_b2, if_neg c2, if_pos c3, if_neg c4, if_pos c8]; done)
          exact W.zret (v := 1) (ty := .boolean) hx hb hr rfl (fun t ht hW => ⟨⟨1, (ro, t1, 0, (-1), tk, la, li, bt, mn), rfl, ⟨hres, hre2⟩, by show va_P D vwCl _ t.heap; rw [ht]; exact hP⟩, hS.F ht⟩) hS.2.2 dX1_back_65
        · refine lv_iconst (v := 0) hx hb dX1_back_47 (by decide) ?_
          have hres : 0 = (mk_back (ro, sz, op, kd, tk, la, li, bt, mn) x1).1 := by
            subst et7 et6 et1
            first | rfl | (simp only [mk_back, mk_back2, mk_b2, if_neg c2, if_pos c3, if_neg c4, if_neg c8]; done) | (simp [mk_back, mk_back2, mk_b2, if_neg c2, if_pos c3, if_neg c4, if_neg c8]; done)
          have hre2 : (ro, sz, op, kd, tk, la, li, bt, mn) = (mk_back (ro, sz, op, kd, tk, la, li, bt, mn) x1).2 := by
            subst et7 et6 et1
            first | rfl | (simp only [mk_back, mk_back2, mk_b2, if_neg c2, if_pos c3, if_neg c4, if_neg c8]; done) | (simp [mk_back, mk_back2, mk_b2, if_neg c2, if_pos c3, if_neg c4, if_neg c8]; done)
          exact W.zret (v := 0) (ty := .boolean) hx hb hr rfl (fun t ht hW => ⟨⟨0, (ro, sz, op, kd, tk, la, li, bt, mn), rfl, ⟨hres, hre2⟩, by show va_P D vwCl _ t.heap; rw [ht]; exact hP⟩, hS.F ht⟩) hS.2.2 dX1_back_48
    · refine lv_iconst (v := 0) hx hb dX1_back_19 (by decide) ?_
      have hres : 0 = (mk_back (ro, sz, op, kd, tk, la, li, bt, mn) x1).1 := by
        subst et1
        first | rfl | (simp only [mk_back, mk_back2, mk_b2, if_neg c2, if_neg c3]; done) | (simp [mk_back, mk_back2, mk_b2, if_neg c2, if_neg c3]; done)
      have hre2 : (ro, sz, op, kd, tk, la, li, bt, mn) = (mk_back (ro, sz, op, kd, tk, la, li, bt, mn) x1).2 := by
        subst et1
        first | rfl | (simp only [mk_back, mk_back2, mk_b2, if_neg c2, if_neg c3]; done) | (simp [mk_back, mk_back2, mk_b2, if_neg c2, if_neg c3]; done)
      exact W.zret (v := 0) (ty := .boolean) hx hb hr rfl (fun t ht hW => ⟨⟨0, (ro, sz, op, kd, tk, la, li, bt, mn), rfl, ⟨hres, hre2⟩, by show va_P D vwCl _ t.heap; rw [ht]; exact hP⟩, hS.F ht⟩) hS.2.2 dX1_back_20
