set_option maxHeartbeats 4000000 in
set_option maxRecDepth 100000 in
theorem cM_countLoop (l : Launch) (D : va_G) (cR cY : ClassId) (m0 m1 m2 : Nat)  (ro : Nat → Int32) (sz op kd tk la li : Int32) (bt : Nat → Int32) (mn : Int32) (x1 r : Int32) {H : Heap} {locs : List Loc} {p : Program} {e : Env} {s : State} {m : MethodId} {below : List Frame} {meth : Method} {c : Code} {args : Array Value} {H0 : Heap} {Q : State → Prop} {A : Nat → Prop} (hx : p.tables.exec = Jvm.exec) (hb : c.code = cX1_count) (hts : ∀ x ∈ wsX1_count, x.before args s = true) (hown : s.vm.findClass RX1 = some m.cls) (hml : c.maxLocals = 4) (hK : va_K D vwCl [(cR, .int), (cY, .int)] s) (hP : va_P D vwCl (mkW cR cY m0 m1 m2 (ro, sz, op, kd, tk, la, li, bt, mn)) H) (hD : va_D A (mkW cR cY m0 m1 m2 (ro, sz, op, kd, tk, la, li, bt, mn)))
    (hex : ∀ (ls : Array Slot) (k : Int32), lv_has ls 4 [(3, .int k), (2, .int r), (0, .ref m0), (1, .int x1)] → W p l e { frames := 0, cells := 0, slots := 0, locals := 0 } s m args below meth c H locs 0 0 Q (F0 m 92 ls [])) :
    ∀ (n j : Nat) (acc k : Int32) (ls : Array Slot), k = nI j → sz = nI (j + n) → j + n ≤ 3000 → mk_cn ro acc k n = r → lv_has ls 4 [(3, .int k), (2, .int acc), (0, .ref m0), (1, .int x1)] → W p l e { frames := 0, cells := 0, slots := 0, locals := 0 } s m args below meth c H locs 0 0 Q (F0 m 59 ls []) := by
  have hin : ∀ w ∈ wsX10, w ∈ wsX1_count := by decide +kernel
  have lk23 := hts (.fieldLink RX1 23 "EventLineDeskModel" "size" "I") (by decide +kernel)
  have lk13 := hts (.fieldLink RX1 13 "EventLineDeskModel" "kind" "I") (by decide +kernel)
  have lk26 := hts (.fieldLink RX1 26 "EventLineDeskModel" "open" "I") (by decide +kernel)
  have lk53 := hts (.fieldLink RX1 53 "EventLineDeskModel" "lines" "I") (by decide +kernel)
  have lk7 := hts (.fieldLink RX1 7 "EventLineDeskModel" "row" "[I") (by decide +kernel)
  intro n
  induction n with
  | zero =>
    intro j acc k ls hk hm hj hr9 hl
    refine lv_iload_n hx hb dX1_count_59 rfl (lv_at hl 0 rfl) ?_
    refine lv_aload_n hx hb dX1_count_60 rfl (lv_at hl 2 rfl) ?_
    refine va_get (D := D) (ci := 1) (v := .int sz) (C := RX1) (T := TX1) (N := 9) hx hb hts hin hown hK hP 0 rfl rfl 1 (by decide) lk23 (fun _ h9 => h9) rfl dX1_count_61 ?_
    refine lv_icmp_ge (tgt := 92) hx hb dX1_count_64 (by decide) (fun c1 => ?_) (fun c1 => ?_)
    · have hr9 : acc = r := hr9
      subst hr9
      exact hex ls k hl
    · exact absurd c1 (not_not_intro (by rw [hk, hm]; exact nI_le (Nat.le_refl _) (by omega)))
  | succ n ih =>
    intro j acc k ls hk hm hj hr9 hl
    refine lv_iload_n hx hb dX1_count_59 rfl (lv_at hl 0 rfl) ?_
    refine lv_aload_n hx hb dX1_count_60 rfl (lv_at hl 2 rfl) ?_
    refine va_get (D := D) (ci := 1) (v := .int sz) (C := RX1) (T := TX1) (N := 9) hx hb hts hin hown hK hP 0 rfl rfl 1 (by decide) lk23 (fun _ h9 => h9) rfl dX1_count_61 ?_
    refine lv_icmp_ge (tgt := 92) hx hb dX1_count_64 (by decide) (fun c1 => ?_) (fun c1 => ?_)
    · exact absurd c1 (by rw [hk, hm]; exact nI_ge (by omega) (by omega))
    · refine lv_iload_n hx hb dX1_count_67 rfl (lv_at hl 1 rfl) ?_
      refine lv_aload_n hx hb dX1_count_68 rfl (lv_at hl 2 rfl) ?_
      refine va_get (D := D) (ci := 1) (v := .ref m1) (C := RX1) (T := TX1) (N := 9) hx hb hts hin hown hK hP 0 rfl rfl 0 (by decide) lk7 (fun _ h9 => h9) rfl dX1_count_69 ?_
      refine lv_iload_n hx hb dX1_count_72 rfl (lv_at hl 0 rfl) ?_
      refine va_iald hx hb hK hP 1 0 rfl rfl (by rw [hk]; exact vp_in_nI (by omega) (by omega)) dX1_count_73 ?_
      refine lv_topi (fun t2 et2 => ?_)
      refine lv_bipush (v := 10) hx hb dX1_count_74 (by decide) ?_
      refine lv_icmp_ne (tgt := 83) hx hb dX1_count_76 (by decide) (fun c3 => ?_) (fun c3 => ?_)
      · refine lv_iconst (v := 0) hx hb dX1_count_83 (by decide) ?_
        refine lv_iadd hx hb dX1_count_84 ?_
        refine lv_topi (fun t4 et4 => ?_)
        refine lv_istore_n (lv' := [(2, .int t4), (3, .int k), (0, .ref m0), (1, .int x1)]) hx hb dX1_count_85 rfl hl (by decide) rfl (fun ls hl => ?_)
        obtain ⟨t5, et5⟩ : ∃ y : Int32, y = k + 1 := ⟨_, rfl⟩
        refine lv_iinc (v := t5) (lv' := [(3, .int t5), (2, .int t4), (0, .ref m0), (1, .int x1)]) hx hb dX1_count_86 hl (k := 1) rfl (by rw [et5]; rfl) (by decide) rfl (fun ls hl => ?_)
        refine lv_goto (tgt := 59) hx hb dX1_count_89 (by decide) ?_
        refine ih (j + 1) t4 t5 ls (by rw [et5, hk]; exact nI_1 j) (by rw [hm]; congr 1; omega) (by omega) ?_ (lv_sub hl [0, 1, 2, 3] rfl)
        rw [← hr9]
        subst et5 et4 et2
        simp only [mk_cn, if_pos c3]
      · refine lv_iconst (v := 1) hx hb dX1_count_79 (by decide) ?_
        refine lv_goto (tgt := 84) hx hb dX1_count_80 (by decide) ?_
        refine lv_iadd hx hb dX1_count_84 ?_
        refine lv_topi (fun t6 et6 => ?_)
        refine lv_istore_n (lv' := [(2, .int t6), (3, .int k), (0, .ref m0), (1, .int x1)]) hx hb dX1_count_85 rfl hl (by decide) rfl (fun ls hl => ?_)
        obtain ⟨t7, et7⟩ : ∃ y : Int32, y = k + 1 := ⟨_, rfl⟩
        refine lv_iinc (v := t7) (lv' := [(3, .int t7), (2, .int t6), (0, .ref m0), (1, .int x1)]) hx hb dX1_count_86 hl (k := 1) rfl (by rw [et7]; rfl) (by decide) rfl (fun ls hl => ?_)
        refine lv_goto (tgt := 59) hx hb dX1_count_89 (by decide) ?_
        refine ih (j + 1) t6 t7 ls (by rw [et7, hk]; exact nI_1 j) (by rw [hm]; congr 1; omega) (by omega) ?_ (lv_sub hl [0, 1, 2, 3] rfl)
        rw [← hr9]
        subst et7 et6 et2
        simp only [mk_cn, if_neg (not_not_intro c3)]
set_option maxHeartbeats 4000000 in
set_option maxRecDepth 100000 in
theorem cM_count (l : Launch) (D : va_G) (cR cY : ClassId) (m0 m1 m2 : Nat) (ro : Nat → Int32) (sz op kd tk la li : Int32) (bt : Nat → Int32) (mn : Int32) (x1 : Int32) (hz : mk_ok sz) : mkR l yX1_count wsX1_count ({ frames := 0, cells := 0, slots := 0, locals := 0 }) D cR cY m0 m1 m2 (ro, sz, op, kd, tk, la, li, bt, mn) [.int x1] (mk_count (ro, sz, op, kd, tk, la, li, bt, mn) x1) := by
  refine kk_of (cc := cX1_count) (maxL := 4) (ret := (some .int)) (by decide) rfl (Nat.le_of_ble_eq_true rfl) ?_
  intro p e s m below meth c ls hx hb hr hts hown hlocks hml hnm hP hK hD hl
  have hown : s.vm.findClass RX1 = some m.cls := hown
  have hl : lv_has ls 4 [(0, .ref m0), (1, .int x1)] := hl
  have hin : ∀ w ∈ wsX10, w ∈ wsX1_count := by decide +kernel
  have lk23 := hts (.fieldLink RX1 23 "EventLineDeskModel" "size" "I") (by decide +kernel)
  have lk13 := hts (.fieldLink RX1 13 "EventLineDeskModel" "kind" "I") (by decide +kernel)
  have lk26 := hts (.fieldLink RX1 26 "EventLineDeskModel" "open" "I") (by decide +kernel)
  have lk53 := hts (.fieldLink RX1 53 "EventLineDeskModel" "lines" "I") (by decide +kernel)
  have lk7 := hts (.fieldLink RX1 7 "EventLineDeskModel" "row" "[I") (by decide +kernel)
  refine lv_iload_n hx hb dX1_count_0 rfl (lv_at hl 1 rfl) ?_
  rcases dk_sw4 x1 with c1 | c1 | c1 | c1 | c1
  · refine lv_tableOut (tgt := 50) hx hb dX1_count_1 c1 (by decide) ?_
    obtain ⟨c1_0, c1_1, c1_2, c1_3⟩ := dk_ne4 c1
    refine lv_iconst (v := (-1)) hx hb dX1_count_50 (by decide) ?_
    have hres : (-1) = mk_count (ro, sz, op, kd, tk, la, li, bt, mn) x1 := by
      first | rfl | (simp only [mk_count, if_neg c1_0, if_neg c1_1, if_neg c1_2, if_neg c1_3]; done) | (simp [mk_count, if_neg c1_0, if_neg c1_1, if_neg c1_2, if_neg c1_3]; done)
    exact W.iret (v := (-1)) hx hb hr (fun t ht hW => ⟨congrArg (fun z => Outcome.returned (some (Value.int z))) hres, ht⟩) (fun q h => absurd h List.not_mem_nil) dX1_count_51
  · refine lv_tableIn (tgt := 32) hx hb dX1_count_1 (by rw [c1]; decide) (by rw [c1]; decide) (off := 31) (by rw [c1]; rfl) (by decide) ?_
    refine lv_aload_n hx hb dX1_count_32 rfl (lv_at hl 0 rfl) ?_
    refine va_get (D := D) (ci := 1) (v := .int sz) (C := RX1) (T := TX1) (N := 9) hx hb hts hin hown hK hP 0 rfl rfl 1 (by decide) lk23 (fun _ h9 => h9) rfl dX1_count_33 ?_
    have hres : sz = mk_count (ro, sz, op, kd, tk, la, li, bt, mn) x1 := by
      first | (rw [c1]; rfl) | (simp only [c1, mk_count]; done) | (simp [c1, mk_count]; done)
    exact W.iret (v := sz) hx hb hr (fun t ht hW => ⟨congrArg (fun z => Outcome.returned (some (Value.int z))) hres, ht⟩) (fun q h => absurd h List.not_mem_nil) dX1_count_36
  · refine lv_tableIn (tgt := 37) hx hb dX1_count_1 (by rw [c1]; decide) (by rw [c1]; decide) (off := 36) (by rw [c1]; rfl) (by decide) ?_
    refine lv_goto (tgt := 52) hx hb dX1_count_37 (by decide) ?_
    refine lv_aload_n hx hb dX1_count_52 rfl (lv_at hl 0 rfl) ?_
    refine va_get (D := D) (ci := 1) (v := .int li) (C := RX1) (T := TX1) (N := 9) hx hb hts hin hown hK hP 0 rfl rfl 6 (by decide) lk53 (fun _ h9 => h9) rfl dX1_count_53 ?_
    refine lv_istore_n (lv' := [(2, .int li), (0, .ref m0), (1, .int x1)]) hx hb dX1_count_56 rfl hl (by decide) rfl (fun ls hl => ?_)
    refine lv_iconst (v := 0) hx hb dX1_count_57 (by decide) ?_
    refine lv_istore_n (lv' := [(3, .int 0), (2, .int li), (0, .ref m0), (1, .int x1)]) hx hb dX1_count_58 rfl hl (by decide) rfl (fun ls hl => ?_)
    obtain ⟨zz, hz1, hz2⟩ := hz
    refine cM_countLoop (H0 := s.heap) l D cR cY m0 m1 m2 ro sz op kd tk la li bt mn x1 (mk_cn ro li 0 zz) hx hb hts hown hml hK hP hD (fun ls k hl => ?_) zz 0 li 0 ls nI_0.symm (by rw [Nat.zero_add]; exact hz1) (by omega) rfl (lv_sub hl [0, 1, 2, 3] rfl)
    have hq9 : mk_cn ro li 0 zz = mk_cn ro li 0 sz.toNatClampNeg := by rw [hz1, nI_clamp (by omega)]
    rw [hq9] at hl
    refine lv_iload_n hx hb dX1_count_92 rfl (lv_at hl 1 rfl) ?_
    have hres : (mk_cn ro li 0 sz.toNatClampNeg) = mk_count (ro, sz, op, kd, tk, la, li, bt, mn) x1 := by
      first | (rw [c1]; rfl) | (simp only [c1, mk_count]; done) | (simp [c1, mk_count]; done)
    exact W.iret (v := (mk_cn ro li 0 sz.toNatClampNeg)) hx hb hr (fun t ht hW => ⟨congrArg (fun z => Outcome.returned (some (Value.int z))) hres, ht⟩) (fun q h => absurd h List.not_mem_nil) dX1_count_93
  · refine lv_tableIn (tgt := 40) hx hb dX1_count_1 (by rw [c1]; decide) (by rw [c1]; decide) (off := 39) (by rw [c1]; rfl) (by decide) ?_
    refine lv_aload_n hx hb dX1_count_40 rfl (lv_at hl 0 rfl) ?_
    refine va_get (D := D) (ci := 1) (v := .int kd) (C := RX1) (T := TX1) (N := 9) hx hb hts hin hown hK hP 0 rfl rfl 3 (by decide) lk13 (fun _ h9 => h9) rfl dX1_count_41 ?_
    have hres : kd = mk_count (ro, sz, op, kd, tk, la, li, bt, mn) x1 := by
      first | (rw [c1]; rfl) | (simp only [c1, mk_count]; done) | (simp [c1, mk_count]; done)
    exact W.iret (v := kd) hx hb hr (fun t ht hW => ⟨congrArg (fun z => Outcome.returned (some (Value.int z))) hres, ht⟩) (fun q h => absurd h List.not_mem_nil) dX1_count_44
  · refine lv_tableIn (tgt := 45) hx hb dX1_count_1 (by rw [c1]; decide) (by rw [c1]; decide) (off := 44) (by rw [c1]; rfl) (by decide) ?_
    refine lv_aload_n hx hb dX1_count_45 rfl (lv_at hl 0 rfl) ?_
    refine va_get (D := D) (ci := 1) (v := .int op) (C := RX1) (T := TX1) (N := 9) hx hb hts hin hown hK hP 0 rfl rfl 2 (by decide) lk26 (fun _ h9 => h9) rfl dX1_count_46 ?_
    have hres : op = mk_count (ro, sz, op, kd, tk, la, li, bt, mn) x1 := by
      first | (rw [c1]; rfl) | (simp only [c1, mk_count]; done) | (simp [c1, mk_count]; done)
    exact W.iret (v := op) hx hb hr (fun t ht hW => ⟨congrArg (fun z => Outcome.returned (some (Value.int z))) hres, ht⟩) (fun q h => absurd h List.not_mem_nil) dX1_count_49
set_option maxHeartbeats 4000000 in
set_option maxRecDepth 100000 in
theorem cM_takeL1 (l : Launch) (D : va_G) (cR cY : ClassId) (m0 m1 m2 : Nat) (ro : Nat → Int32) (sz op kd tk la : Int32) (bt : Nat → Int32) (mn : Int32) (nn : Int32) (r1 : Int64) (r2 : Int32) {p : Program} {e : Env} {s : State} {m : MethodId} {below : List Frame} {meth : Method} {c : Code} {args : Array Value} {H0 : Heap} {Q : State → Prop} {A : Nat → Prop} (hx : p.tables.exec = Jvm.exec) (hb : c.code = cX1_take) (hts : ∀ x ∈ wsX1_take, x.before args s = true) (hown : s.vm.findClass RX1 = some m.cls) (hml : c.maxLocals = 5) (hK : va_K D vwCl [(cR, .int), (cY, .int)] s)
    (hex : ∀ (k : Int32) (H : Heap) (locs : List Loc) (ls : Array Slot), va_P D vwCl (mkW cR cY m0 m1 m2 (ro, sz, op, kd, tk, la, r2, bt, mn)) H → va_D A (mkW cR cY m0 m1 m2 (ro, sz, op, kd, tk, la, r2, bt, mn)) → va_S A H0 H locs → lv_has ls 5 [(4, .int k), (2, .long r1), (1, .int nn), (0, .ref m0)] → W p l e { frames := 0, cells := 0, slots := 0, locals := 0 } s m args below meth c H locs 0 0 Q (F0 m 102 ls [])) :
    ∀ (n j : Nat) (out : Int64) (li k : Int32) (H : Heap) (locs : List Loc) (ls : Array Slot), k = nI j → nn = nI (j + n) → j + n ≤ 3000 → mk_t1 ro out k n = r1 → mk_cn ro li k n = r2 → va_P D vwCl (mkW cR cY m0 m1 m2 (ro, sz, op, kd, tk, la, li, bt, mn)) H → va_D A (mkW cR cY m0 m1 m2 (ro, sz, op, kd, tk, la, li, bt, mn)) → va_S A H0 H locs → lv_has ls 5 [(4, .int k), (2, .long out), (1, .int nn), (0, .ref m0)] → W p l e { frames := 0, cells := 0, slots := 0, locals := 0 } s m args below meth c H locs 0 0 Q (F0 m 44 ls []) := by
  have hin : ∀ w ∈ wsX10, w ∈ wsX1_take := by decide +kernel
  have lk23 := hts (.fieldLink RX1 23 "EventLineDeskModel" "size" "I") (by decide +kernel)
  have lk26 := hts (.fieldLink RX1 26 "EventLineDeskModel" "open" "I") (by decide +kernel)
  have lk7 := hts (.fieldLink RX1 7 "EventLineDeskModel" "row" "[I") (by decide +kernel)
  have lk53 := hts (.fieldLink RX1 53 "EventLineDeskModel" "lines" "I") (by decide +kernel)
  have lk17 := hts (.fieldLink RX1 17 "EventLineDeskModel" "last" "I") (by decide +kernel)
  have lk50 := hts (.fieldLink RX1 50 "EventLineDeskModel" "taken" "I") (by decide +kernel)
  intro n
  induction n with
  | zero =>
    intro j out li k H locs ls hk hm hj hr9 hr8 hP hD hS hl
    refine lv_iload hx hb dX1_take_44 (lv_at hl 0 rfl) ?_
    refine lv_iload_n hx hb dX1_take_46 rfl (lv_at hl 2 rfl) ?_
    refine lv_icmp_ge (tgt := 102) hx hb dX1_take_47 (by decide) (fun c1 => ?_) (fun c1 => ?_)
    · have hr9 : out = r1 := hr9
      have hr8 : li = r2 := hr8
      subst hr9
      subst hr8
      exact hex k H locs ls hP hD hS hl
    · exact absurd c1 (not_not_intro (by rw [hk, hm]; exact nI_le (Nat.le_refl _) (by omega)))
  | succ n ih =>
    intro j out li k H locs ls hk hm hj hr9 hr8 hP hD hS hl
    refine lv_iload hx hb dX1_take_44 (lv_at hl 0 rfl) ?_
    refine lv_iload_n hx hb dX1_take_46 rfl (lv_at hl 2 rfl) ?_
    refine lv_icmp_ge (tgt := 102) hx hb dX1_take_47 (by decide) (fun c1 => ?_) (fun c1 => ?_)
    · exact absurd c1 (by rw [hk, hm]; exact nI_ge (by omega) (by omega))
    · refine lv_lload_n hx hb dX1_take_50 rfl (lv_at hl 1 rfl) ?_
      refine lv_aload_n hx hb dX1_take_51 rfl (lv_at hl 3 rfl) ?_
      refine va_get (D := D) (ci := 1) (v := .ref m1) (C := RX1) (T := TX1) (N := 9) hx hb hts hin hown hK hP 0 rfl rfl 0 (by decide) lk7 (fun _ h9 => h9) rfl dX1_take_52 ?_
      refine lv_iload hx hb dX1_take_55 (lv_at hl 0 rfl) ?_
      refine va_iald hx hb hK hP 1 0 rfl rfl (by rw [hk]; exact vp_in_nI (by omega) (by omega)) dX1_take_57 ?_
      refine lv_topi (fun t2 et2 => ?_)
      refine lv_i2l hx hb dX1_take_58 rfl ?_
      refine lv_topl (fun t3 et3 => ?_)
      refine lv_bipush (v := 48) hx hb dX1_take_59 (by decide) ?_
      refine lv_bipush (v := 8) hx hb dX1_take_61 (by decide) ?_
      refine lv_iload hx hb dX1_take_63 (lv_at hl 0 rfl) ?_
      refine lv_imul hx hb dX1_take_65 ?_
      refine lv_topi (fun t4 et4 => ?_)
      refine lv_isub hx hb dX1_take_66 ?_
      refine lv_topi (fun t5 et5 => ?_)
      refine lv_lshl hx hb dX1_take_67 rfl ?_
      refine lv_topl (fun t6 et6 => ?_)
      refine lv_lor hx hb dX1_take_68 ?_
      refine lv_topl (fun t7 et7 => ?_)
      refine lv_lstore_n (lv' := [(2, .long t7), (4, .int k), (1, .int nn), (0, .ref m0)]) hx hb dX1_take_69 rfl hl (by decide) rfl (fun ls hl => ?_)
      refine lv_aload_n hx hb dX1_take_70 rfl (lv_at hl 3 rfl) ?_
      refine lv_aload_n hx hb dX1_take_71 rfl (lv_at hl 3 rfl) ?_
      refine va_get (D := D) (ci := 1) (v := .int li) (C := RX1) (T := TX1) (N := 9) hx hb hts hin hown hK hP 0 rfl rfl 6 (by decide) lk53 (fun _ h9 => h9) rfl dX1_take_72 ?_
      refine lv_aload_n hx hb dX1_take_75 rfl (lv_at hl 3 rfl) ?_
      refine va_get (D := D) (ci := 1) (v := .ref m1) (C := RX1) (T := TX1) (N := 9) hx hb hts hin hown hK hP 0 rfl rfl 0 (by decide) lk7 (fun _ h9 => h9) rfl dX1_take_76 ?_
      refine lv_iload hx hb dX1_take_79 (lv_at hl 1 rfl) ?_
      refine va_iald hx hb hK hP 1 0 rfl rfl (by rw [hk]; exact vp_in_nI (by omega) (by omega)) dX1_take_81 ?_
      refine lv_topi (fun t8 et8 => ?_)
      refine lv_bipush (v := 10) hx hb dX1_take_82 (by decide) ?_
      refine lv_icmp_ne (tgt := 91) hx hb dX1_take_84 (by decide) (fun c9 => ?_) (fun c9 => ?_)
      · refine lv_iconst (v := 0) hx hb dX1_take_91 (by decide) ?_
        refine lv_iadd hx hb dX1_take_92 ?_
        refine lv_topi (fun t10 et10 => ?_)
        refine va_put (D := D) (ci := 1) (v := .int t10) (ty := .int) (C := RX1) (T := TX1) (N := 9) hx hb hts hin tyX1 tyX1_ok nmX1 hown hK hP hD hS 0 rfl rfl 6 (by decide) lk53 (fun _ h9 => h9) rfl (by decide +kernel) rfl rfl (Nat.le_of_ble_eq_true rfl) dX1_take_93 (fun H locs hP hD hS => ?_)
        have hP : va_P D vwCl (mkW cR cY m0 m1 m2 (ro, sz, op, kd, tk, la, t10, bt, mn)) H := hP
        have hD : va_D A (mkW cR cY m0 m1 m2 (ro, sz, op, kd, tk, la, t10, bt, mn)) := hD
        obtain ⟨t11, et11⟩ : ∃ y : Int32, y = k + 1 := ⟨_, rfl⟩
        refine lv_iinc (v := t11) (lv' := [(4, .int t11), (2, .long t7), (1, .int nn), (0, .ref m0)]) hx hb dX1_take_96 hl (k := 1) rfl (by rw [et11]; rfl) (by decide) rfl (fun ls hl => ?_)
        refine lv_goto (tgt := 44) hx hb dX1_take_99 (by decide) ?_
        refine ih (j + 1) t7 t10 t11 H locs ls (by rw [et11, hk]; exact nI_1 j) (by rw [hm]; congr 1; omega) (by omega) ?_ ?_ hP hD hS (lv_sub hl [0, 1, 2, 3] rfl)
        · rw [← hr9]
          subst et11 et10 et8 et7 et6 et5 et4 et3 et2
          simp only [mk_t1]
        · rw [← hr8]
          subst et11 et10 et8 et7 et6 et5 et4 et3 et2
          simp only [mk_cn, if_pos c9]
      · refine lv_iconst (v := 1) hx hb dX1_take_87 (by decide) ?_
        refine lv_goto (tgt := 92) hx hb dX1_take_88 (by decide) ?_
        refine lv_iadd hx hb dX1_take_92 ?_
        refine lv_topi (fun t12 et12 => ?_)
        refine va_put (D := D) (ci := 1) (v := .int t12) (ty := .int) (C := RX1) (T := TX1) (N := 9) hx hb hts hin tyX1 tyX1_ok nmX1 hown hK hP hD hS 0 rfl rfl 6 (by decide) lk53 (fun _ h9 => h9) rfl (by decide +kernel) rfl rfl (Nat.le_of_ble_eq_true rfl) dX1_take_93 (fun H locs hP hD hS => ?_)
        have hP : va_P D vwCl (mkW cR cY m0 m1 m2 (ro, sz, op, kd, tk, la, t12, bt, mn)) H := hP
        have hD : va_D A (mkW cR cY m0 m1 m2 (ro, sz, op, kd, tk, la, t12, bt, mn)) := hD
        obtain ⟨t13, et13⟩ : ∃ y : Int32, y = k + 1 := ⟨_, rfl⟩
        refine lv_iinc (v := t13) (lv' := [(4, .int t13), (2, .long t7), (1, .int nn), (0, .ref m0)]) hx hb dX1_take_96 hl (k := 1) rfl (by rw [et13]; rfl) (by decide) rfl (fun ls hl => ?_)
        refine lv_goto (tgt := 44) hx hb dX1_take_99 (by decide) ?_
        refine ih (j + 1) t7 t12 t13 H locs ls (by rw [et13, hk]; exact nI_1 j) (by rw [hm]; congr 1; omega) (by omega) ?_ ?_ hP hD hS (lv_sub hl [0, 1, 2, 3] rfl)
        · rw [← hr9]
          subst et13 et12 et8 et7 et6 et5 et4 et3 et2
          simp only [mk_t1]
        · rw [← hr8]
          subst et13 et12 et8 et7 et6 et5 et4 et3 et2
          simp only [mk_cn, if_neg (not_not_intro c9)]
set_option maxHeartbeats 4000000 in
set_option maxRecDepth 100000 in
theorem cM_takeL2 (l : Launch) (D : va_G) (cR cY : ClassId) (m0 m1 m2 : Nat) (sz op kd tk la li : Int32) (bt : Nat → Int32) (mn : Int32) (nn : Int32) (out : Int64) (r : Nat → Int32) (n0 : Nat) (hn0 : nn = nI n0) {p : Program} {e : Env} {s : State} {m : MethodId} {below : List Frame} {meth : Method} {c : Code} {args : Array Value} {H0 : Heap} {Q : State → Prop} {A : Nat → Prop} (hx : p.tables.exec = Jvm.exec) (hb : c.code = cX1_take) (hts : ∀ x ∈ wsX1_take, x.before args s = true) (hown : s.vm.findClass RX1 = some m.cls) (hml : c.maxLocals = 5) (hK : va_K D vwCl [(cR, .int), (cY, .int)] s)
    (hex : ∀ (k : Int32) (H : Heap) (locs : List Loc) (ls : Array Slot), va_P D vwCl (mkW cR cY m0 m1 m2 (r, sz, op, kd, tk, la, li, bt, mn)) H → va_D A (mkW cR cY m0 m1 m2 (r, sz, op, kd, tk, la, li, bt, mn)) → va_S A H0 H locs → lv_has ls 5 [(4, .int k), (2, .long out), (1, .int nn), (0, .ref m0)] → W p l e { frames := 0, cells := 0, slots := 0, locals := 0 } s m args below meth c H locs 0 0 Q (F0 m 148 ls [])) :
    ∀ (n j : Nat) (ro : Nat → Int32) (k : Int32) (H : Heap) (locs : List Loc) (ls : Array Slot), k = nI j → sz = nI (j + n) → j + n ≤ 3000 → n0 ≤ j → mk_sh ro nn k n = r → va_P D vwCl (mkW cR cY m0 m1 m2 (ro, sz, op, kd, tk, la, li, bt, mn)) H → va_D A (mkW cR cY m0 m1 m2 (ro, sz, op, kd, tk, la, li, bt, mn)) → va_S A H0 H locs → lv_has ls 5 [(4, .int k), (2, .long out), (1, .int nn), (0, .ref m0)] → W p l e { frames := 0, cells := 0, slots := 0, locals := 0 } s m args below meth c H locs 0 0 Q (F0 m 117 ls []) := by
  have hin : ∀ w ∈ wsX10, w ∈ wsX1_take := by decide +kernel
  have lk23 := hts (.fieldLink RX1 23 "EventLineDeskModel" "size" "I") (by decide +kernel)
  have lk26 := hts (.fieldLink RX1 26 "EventLineDeskModel" "open" "I") (by decide +kernel)
  have lk7 := hts (.fieldLink RX1 7 "EventLineDeskModel" "row" "[I") (by decide +kernel)
  have lk53 := hts (.fieldLink RX1 53 "EventLineDeskModel" "lines" "I") (by decide +kernel)
  have lk17 := hts (.fieldLink RX1 17 "EventLineDeskModel" "last" "I") (by decide +kernel)
  have lk50 := hts (.fieldLink RX1 50 "EventLineDeskModel" "taken" "I") (by decide +kernel)
  intro n
  induction n with
  | zero =>
    intro j ro k H locs ls hk hm hj hnj hr9 hP hD hS hl
    refine lv_iload hx hb dX1_take_117 (lv_at hl 0 rfl) ?_
    refine lv_aload_n hx hb dX1_take_119 rfl (lv_at hl 3 rfl) ?_
    refine va_get (D := D) (ci := 1) (v := .int sz) (C := RX1) (T := TX1) (N := 9) hx hb hts hin hown hK hP 0 rfl rfl 1 (by decide) lk23 (fun _ h9 => h9) rfl dX1_take_120 ?_
    refine lv_icmp_ge (tgt := 148) hx hb dX1_take_123 (by decide) (fun c1 => ?_) (fun c1 => ?_)
    · have hr9 : ro = r := hr9
      subst hr9
      exact hex k H locs ls hP hD hS hl
    · exact absurd c1 (not_not_intro (by rw [hk, hm]; exact nI_le (Nat.le_refl _) (by omega)))
  | succ n ih =>
    intro j ro k H locs ls hk hm hj hnj hr9 hP hD hS hl
    refine lv_iload hx hb dX1_take_117 (lv_at hl 0 rfl) ?_
    refine lv_aload_n hx hb dX1_take_119 rfl (lv_at hl 3 rfl) ?_
    refine va_get (D := D) (ci := 1) (v := .int sz) (C := RX1) (T := TX1) (N := 9) hx hb hts hin hown hK hP 0 rfl rfl 1 (by decide) lk23 (fun _ h9 => h9) rfl dX1_take_120 ?_
    refine lv_icmp_ge (tgt := 148) hx hb dX1_take_123 (by decide) (fun c1 => ?_) (fun c1 => ?_)
    · exact absurd c1 (by rw [hk, hm]; exact nI_ge (by omega) (by omega))
    · refine lv_aload_n hx hb dX1_take_126 rfl (lv_at hl 3 rfl) ?_
      refine va_get (D := D) (ci := 1) (v := .ref m1) (C := RX1) (T := TX1) (N := 9) hx hb hts hin hown hK hP 0 rfl rfl 0 (by decide) lk7 (fun _ h9 => h9) rfl dX1_take_127 ?_
      refine lv_iload hx hb dX1_take_130 (lv_at hl 0 rfl) ?_
      refine lv_iload_n hx hb dX1_take_132 rfl (lv_at hl 2 rfl) ?_
      refine lv_isub hx hb dX1_take_133 ?_
      refine lv_topi (fun t2 et2 => ?_)
      refine lv_aload_n hx hb dX1_take_134 rfl (lv_at hl 3 rfl) ?_
      refine va_get (D := D) (ci := 1) (v := .ref m1) (C := RX1) (T := TX1) (N := 9) hx hb hts hin hown hK hP 0 rfl rfl 0 (by decide) lk7 (fun _ h9 => h9) rfl dX1_take_135 ?_
      refine lv_iload hx hb dX1_take_138 (lv_at hl 0 rfl) ?_
      refine va_iald hx hb hK hP 1 0 rfl rfl (by rw [hk]; exact vp_in_nI (by omega) (by omega)) dX1_take_140 ?_
      refine lv_topi (fun t3 et3 => ?_)
      refine va_iast hx hb hK hP hD hS 1 0 rfl rfl (by rw [et2, hk, hn0, pk_sub hnj]; exact vp_in_nI (by omega) (by omega)) dX1_take_141 (fun H locs hP hD hS => ?_)
      obtain ⟨g4, eg4⟩ : ∃ y : Nat → Int32, y = upd ro t2.toNatClampNeg t3 := ⟨_, rfl⟩
      have hP : va_P D vwCl (mkW cR cY m0 m1 m2 (g4, sz, op, kd, tk, la, li, bt, mn)) H := by rw [eg4]; exact hP
      have hD : va_D A (mkW cR cY m0 m1 m2 (g4, sz, op, kd, tk, la, li, bt, mn)) := kk_D_same hD rfl
      obtain ⟨t5, et5⟩ : ∃ y : Int32, y = k + 1 := ⟨_, rfl⟩
      refine lv_iinc (v := t5) (lv' := [(4, .int t5), (2, .long out), (1, .int nn), (0, .ref m0)]) hx hb dX1_take_142 hl (k := 0) rfl (by rw [et5]; rfl) (by decide) rfl (fun ls hl => ?_)
      refine lv_goto (tgt := 117) hx hb dX1_take_145 (by decide) ?_
      refine ih (j + 1) g4 t5 H locs ls (by rw [et5, hk]; exact nI_1 j) (by rw [hm]; congr 1; omega) (by omega) (by omega) ?_ hP hD hS (lv_sub hl [0, 1, 2, 3] rfl)
      rw [← hr9]
      subst et5 eg4 et3 et2
      rfl
set_option maxHeartbeats 4000000 in
set_option maxRecDepth 100000 in
theorem cM_take (l : Launch) (D : va_G) (cR cY : ClassId) (m0 m1 m2 : Nat) (ro : Nat → Int32) (sz op kd tk la li : Int32) (bt : Nat → Int32) (mn : Int32)  (hz : mk_ok2 sz op) : mkL l yX1_take wsX1_take ({ frames := 0, cells := 0, slots := 0, locals := 0 }) D cR cY m0 m1 m2 (ro, sz, op, kd, tk, la, li, bt, mn) [] (mk_take (ro, sz, op, kd, tk, la, li, bt, mn)).1 (mk_take (ro, sz, op, kd, tk, la, li, bt, mn)).2 := by
  refine kk_of (cc := cX1_take) (maxL := 5) (ret := (some .long)) (by decide) rfl (Nat.le_of_ble_eq_true rfl) ?_
  intro p e s m below meth c ls hx hb hr hts hown hlocks hml hnm hP hK hD hl
  have hown : s.vm.findClass RX1 = some m.cls := hown
  have hl : lv_has ls 5 [(0, .ref m0)] := hl
  have hin : ∀ w ∈ wsX10, w ∈ wsX1_take := by decide +kernel
  have lk23 := hts (.fieldLink RX1 23 "EventLineDeskModel" "size" "I") (by decide +kernel)
  have lk26 := hts (.fieldLink RX1 26 "EventLineDeskModel" "open" "I") (by decide +kernel)
  have lk7 := hts (.fieldLink RX1 7 "EventLineDeskModel" "row" "[I") (by decide +kernel)
  have lk53 := hts (.fieldLink RX1 53 "EventLineDeskModel" "lines" "I") (by decide +kernel)
  have lk17 := hts (.fieldLink RX1 17 "EventLineDeskModel" "last" "I") (by decide +kernel)
  have lk50 := hts (.fieldLink RX1 50 "EventLineDeskModel" "taken" "I") (by decide +kernel)
  generalize hAe : kk_A (mkW cR cY m0 m1 m2 (ro, sz, op, kd, tk, la, li, bt, mn)) = A at hD ⊢
  have hS : va_S A s.heap s.heap [] := va_S.rf
  refine lv_aload_n hx hb dX1_take_0 rfl (lv_at hl 0 rfl) ?_
  refine va_get (D := D) (ci := 1) (v := .int sz) (C := RX1) (T := TX1) (N := 9) hx hb hts hin hown hK hP 0 rfl rfl 1 (by decide) lk23 (fun _ h9 => h9) rfl dX1_take_1 ?_
  refine lv_aload_n hx hb dX1_take_4 rfl (lv_at hl 0 rfl) ?_
  refine va_get (D := D) (ci := 1) (v := .int op) (C := RX1) (T := TX1) (N := 9) hx hb hts hin hown hK hP 0 rfl rfl 2 (by decide) lk26 (fun _ h9 => h9) rfl dX1_take_5 ?_
  refine lv_isub hx hb dX1_take_8 ?_
  refine lv_topi (fun t1 et1 => ?_)
  refine lv_bipush (v := 7) hx hb dX1_take_9 (by decide) ?_
  refine lv_icmp_ge (tgt := 26) hx hb dX1_take_11 (by decide) (fun c2 => ?_) (fun c2 => ?_)
  · refine lv_bipush (v := 7) hx hb dX1_take_26 (by decide) ?_
    refine lv_istore_n (lv' := [(1, .int 7), (0, .ref m0)]) hx hb dX1_take_28 rfl hl (by decide) rfl (fun ls hl => ?_)
    refine lv_iload_n hx hb dX1_take_29 rfl (lv_at hl 0 rfl) ?_
    refine lv_if_ne (tgt := 35) hx hb dX1_take_30 (by decide) (fun c3 => ?_) (fun c3 => ?_)
    · refine lv_iload_n hx hb dX1_take_35 rfl (lv_at hl 0 rfl) ?_
      refine lv_i2l hx hb dX1_take_36 rfl ?_
      refine lv_topl (fun t4 et4 => ?_)
      refine lv_bipush (v := 56) hx hb dX1_take_37 (by decide) ?_
      refine lv_lshl hx hb dX1_take_39 rfl ?_
      refine lv_topl (fun t5 et5 => ?_)
      refine lv_lstore_n (lv' := [(2, .long t5), (1, .int 7), (0, .ref m0)]) hx hb dX1_take_40 rfl hl (by decide) rfl (fun ls hl => ?_)
      refine lv_iconst (v := 0) hx hb dX1_take_41 (by decide) ?_
      refine lv_istore (lv' := [(4, .int 0), (2, .long t5), (1, .int 7), (0, .ref m0)]) hx hb dX1_take_42 hl (by decide) rfl (fun ls hl => ?_)
      obtain ⟨nn0, zz, hn9, hz1, hnz, hz3⟩ := mk_nI hz
      have hnn : (7 : Int32) = nI nn0 := by have h := hn9; rw [if_pos (by have h := c2; rw [et1] at h; exact h)] at h; exact h
      have hcl : (7 : Int32).toNatClampNeg = nn0 := by rw [hnn, nI_clamp (by omega)]
      refine cM_takeL1 l D cR cY m0 m1 m2 ro sz op kd tk la bt mn 7 (mk_t1 ro t5 0 nn0) (mk_cn ro li 0 nn0) hx hb hts hown hml hK (fun k H locs ls hP hD hS hl => ?_) nn0 0 t5 li 0 _ _ ls nI_0.symm (by rw [Nat.zero_add]; exact hnn) (by omega) rfl rfl hP hD hS (lv_sub hl [0, 1, 2, 3] rfl)
      obtain ⟨t6, et6⟩ : ∃ y : Int64, y = mk_t1 ro t5 0 (7 : Int32).toNatClampNeg := ⟨_, rfl⟩
      obtain ⟨t7, et7⟩ : ∃ y : Int32, y = mk_cn ro li 0 (7 : Int32).toNatClampNeg := ⟨_, rfl⟩
      rw [← hcl, ← et6] at hl
      rw [← hcl, ← et7] at hP hD
      refine lv_aload_n hx hb dX1_take_102 rfl (lv_at hl 3 rfl) ?_
      refine lv_aload_n hx hb dX1_take_103 rfl (lv_at hl 3 rfl) ?_
      refine va_get (D := D) (ci := 1) (v := .ref m1) (C := RX1) (T := TX1) (N := 9) hx hb hts hin hown hK hP 0 rfl rfl 0 (by decide) lk7 (fun _ h9 => h9) rfl dX1_take_104 ?_
      refine lv_iload_n hx hb dX1_take_107 rfl (lv_at hl 2 rfl) ?_
      refine lv_iconst (v := 1) hx hb dX1_take_108 (by decide) ?_
      refine lv_isub hx hb dX1_take_109 ?_
      refine lv_topi (fun t8 et8 => ?_)
      obtain rfl : t8 = 6 := by rw [et8]; decide
      refine va_iald hx hb hK hP 1 0 rfl rfl (show ¬ ((6 : Int32) < 0 ∨ 3000 ≤ (6 : Int32).toNatClampNeg) from by decide) dX1_take_110 ?_
      refine lv_topi (fun t9 et9 => ?_)
      refine va_put (D := D) (ci := 1) (v := .int t9) (ty := .int) (C := RX1) (T := TX1) (N := 9) hx hb hts hin tyX1 tyX1_ok nmX1 hown hK hP hD hS 0 rfl rfl 5 (by decide) lk17 (fun _ h9 => h9) rfl (by decide +kernel) rfl rfl (Nat.le_of_ble_eq_true rfl) dX1_take_111 (fun H locs hP hD hS => ?_)
      have hP : va_P D vwCl (mkW cR cY m0 m1 m2 (ro, sz, op, kd, tk, t9, t7, bt, mn)) H := hP
      have hD : va_D A (mkW cR cY m0 m1 m2 (ro, sz, op, kd, tk, t9, t7, bt, mn)) := hD
      refine lv_iload_n hx hb dX1_take_114 rfl (lv_at hl 2 rfl) ?_
      refine lv_istore (lv' := [(4, .int 7), (2, .long t6), (1, .int 7), (0, .ref m0)]) hx hb dX1_take_115 hl (by decide) rfl (fun ls hl => ?_)
      have hcs : (sz - 7).toNatClampNeg = zz - nn0 := by rw [hz1, hnn, pk_sub hnz, nI_clamp (by omega)]
      refine cM_takeL2 l D cR cY m0 m1 m2 sz op kd tk t9 t7 bt mn 7 t6 (mk_sh ro 7 7 (zz - nn0)) nn0 hnn hx hb hts hown hml hK (fun k H locs ls hP hD hS hl => ?_) (zz - nn0) nn0 ro 7 _ _ ls hnn (by rw [hz1]; congr 1; omega) (by omega) (Nat.le_refl _) rfl hP hD hS (lv_sub hl [0, 1, 2, 3] rfl)
      obtain ⟨g10, eg10⟩ : ∃ y : Nat → Int32, y = mk_sh ro 7 7 (sz - 7).toNatClampNeg := ⟨_, rfl⟩
      rw [← hcs, ← eg10] at hP hD
      refine lv_aload_n hx hb dX1_take_148 rfl (lv_at hl 3 rfl) ?_
      refine lv_aload_n hx hb dX1_take_149 rfl (lv_at hl 3 rfl) ?_
      refine va_get (D := D) (ci := 1) (v := .int sz) (C := RX1) (T := TX1) (N := 9) hx hb hts hin hown hK hP 0 rfl rfl 1 (by decide) lk23 (fun _ h9 => h9) rfl dX1_take_150 ?_
      refine lv_iload_n hx hb dX1_take_153 rfl (lv_at hl 2 rfl) ?_
      refine lv_isub hx hb dX1_take_154 ?_
      refine lv_topi (fun t11 et11 => ?_)
      refine va_put (D := D) (ci := 1) (v := .int t11) (ty := .int) (C := RX1) (T := TX1) (N := 9) hx hb hts hin tyX1 tyX1_ok nmX1 hown hK hP hD hS 0 rfl rfl 1 (by decide) lk23 (fun _ h9 => h9) rfl (by decide +kernel) rfl rfl (Nat.le_of_ble_eq_true rfl) dX1_take_155 (fun H locs hP hD hS => ?_)
      have hP : va_P D vwCl (mkW cR cY m0 m1 m2 (g10, t11, op, kd, tk, t9, t7, bt, mn)) H := hP
      have hD : va_D A (mkW cR cY m0 m1 m2 (g10, t11, op, kd, tk, t9, t7, bt, mn)) := hD
      refine lv_aload_n hx hb dX1_take_158 rfl (lv_at hl 3 rfl) ?_
      refine lv_aload_n hx hb dX1_take_159 rfl (lv_at hl 3 rfl) ?_
      refine va_get (D := D) (ci := 1) (v := .int tk) (C := RX1) (T := TX1) (N := 9) hx hb hts hin hown hK hP 0 rfl rfl 4 (by decide) lk50 (fun _ h9 => h9) rfl dX1_take_160 ?_
      refine lv_iload_n hx hb dX1_take_163 rfl (lv_at hl 2 rfl) ?_
      refine lv_iadd hx hb dX1_take_164 ?_
      refine lv_topi (fun t12 et12 => ?_)
      refine va_put (D := D) (ci := 1) (v := .int t12) (ty := .int) (C := RX1) (T := TX1) (N := 9) hx hb hts hin tyX1 tyX1_ok nmX1 hown hK hP hD hS 0 rfl rfl 4 (by decide) lk50 (fun _ h9 => h9) rfl (by decide +kernel) rfl rfl (Nat.le_of_ble_eq_true rfl) dX1_take_165 (fun H locs hP hD hS => ?_)
      have hP : va_P D vwCl (mkW cR cY m0 m1 m2 (g10, t11, op, kd, t12, t9, t7, bt, mn)) H := hP
      have hD : va_D A (mkW cR cY m0 m1 m2 (g10, t11, op, kd, t12, t9, t7, bt, mn)) := hD
      refine lv_lload_n hx hb dX1_take_168 rfl (lv_at hl 1 rfl) ?_
      have hres : t6 = (mk_take (ro, sz, op, kd, tk, la, li, bt, mn)).1 := by
        subst et12 et11 eg10 et9 et7 et6 et5 et4 et1
        first | rfl | (simp only [mk_take, mk_take2, mk_n, mk_tk, if_pos c2]; done) | (simp [mk_take, mk_take2, mk_n, mk_tk, if_pos c2]; done)
      have hre2 : (g10, t11, op, kd, t12, t9, t7, bt, mn) = (mk_take (ro, sz, op, kd, tk, la, li, bt, mn)).2 := by
        subst et12 et11 eg10 et9 et7 et6 et5 et4 et1
        first | rfl | (simp only [mk_take, mk_take2, mk_n, mk_tk, if_pos c2]; done) | (simp [mk_take, mk_take2, mk_n, mk_tk, if_pos c2]; done)
      exact W.lret (v := t6) hx hb hr (fun t ht hW => ⟨⟨t6, (g10, t11, op, kd, t12, t9, t7, bt, mn), rfl, ⟨hres, hre2⟩, by show va_P D vwCl _ t.heap; rw [ht]; exact hP⟩, hS.F ht⟩) hS.2.2 dX1_take_169
    · exact absurd c3 (by decide)
  · refine lv_aload_n hx hb dX1_take_14 rfl (lv_at hl 0 rfl) ?_
    refine va_get (D := D) (ci := 1) (v := .int sz) (C := RX1) (T := TX1) (N := 9) hx hb hts hin hown hK hP 0 rfl rfl 1 (by decide) lk23 (fun _ h9 => h9) rfl dX1_take_15 ?_
    refine lv_aload_n hx hb dX1_take_18 rfl (lv_at hl 0 rfl) ?_
    refine va_get (D := D) (ci := 1) (v := .int op) (C := RX1) (T := TX1) (N := 9) hx hb hts hin hown hK hP 0 rfl rfl 2 (by decide) lk26 (fun _ h9 => h9) rfl dX1_take_19 ?_
    refine lv_isub hx hb dX1_take_22 ?_
    refine lv_topi (fun t13 et13 => ?_)
    refine lv_goto (tgt := 28) hx hb dX1_take_23 (by decide) ?_
    refine lv_istore_n (lv' := [(1, .int t13), (0, .ref m0)]) hx hb dX1_take_28 rfl hl (by decide) rfl (fun ls hl => ?_)
    refine lv_iload_n hx hb dX1_take_29 rfl (lv_at hl 0 rfl) ?_
    refine lv_if_ne (tgt := 35) hx hb dX1_take_30 (by decide) (fun c14 => ?_) (fun c14 => ?_)
    · refine lv_iload_n hx hb dX1_take_35 rfl (lv_at hl 0 rfl) ?_
      refine lv_i2l hx hb dX1_take_36 rfl ?_
      refine lv_topl (fun t15 et15 => ?_)
      refine lv_bipush (v := 56) hx hb dX1_take_37 (by decide) ?_
      refine lv_lshl hx hb dX1_take_39 rfl ?_
      refine lv_topl (fun t16 et16 => ?_)
      refine lv_lstore_n (lv' := [(2, .long t16), (1, .int t13), (0, .ref m0)]) hx hb dX1_take_40 rfl hl (by decide) rfl (fun ls hl => ?_)
      refine lv_iconst (v := 0) hx hb dX1_take_41 (by decide) ?_
      refine lv_istore (lv' := [(4, .int 0), (2, .long t16), (1, .int t13), (0, .ref m0)]) hx hb dX1_take_42 hl (by decide) rfl (fun ls hl => ?_)
      obtain ⟨nn0, zz, hn9, hz1, hnz, hz3⟩ := mk_nI hz
      have hnn : t13 = nI nn0 := by have h := hn9; rw [if_neg (by have h := c2; rw [et1] at h; exact h)] at h; rw [et13]; exact h
      have hcl : (t13 : Int32).toNatClampNeg = nn0 := by rw [hnn, nI_clamp (by omega)]
      refine cM_takeL1 l D cR cY m0 m1 m2 ro sz op kd tk la bt mn t13 (mk_t1 ro t16 0 nn0) (mk_cn ro li 0 nn0) hx hb hts hown hml hK (fun k H locs ls hP hD hS hl => ?_) nn0 0 t16 li 0 _ _ ls nI_0.symm (by rw [Nat.zero_add]; exact hnn) (by omega) rfl rfl hP hD hS (lv_sub hl [0, 1, 2, 3] rfl)
      obtain ⟨t17, et17⟩ : ∃ y : Int64, y = mk_t1 ro t16 0 (t13 : Int32).toNatClampNeg := ⟨_, rfl⟩
      obtain ⟨t18, et18⟩ : ∃ y : Int32, y = mk_cn ro li 0 (t13 : Int32).toNatClampNeg := ⟨_, rfl⟩
      rw [← hcl, ← et17] at hl
      rw [← hcl, ← et18] at hP hD
      refine lv_aload_n hx hb dX1_take_102 rfl (lv_at hl 3 rfl) ?_
      refine lv_aload_n hx hb dX1_take_103 rfl (lv_at hl 3 rfl) ?_
      refine va_get (D := D) (ci := 1) (v := .ref m1) (C := RX1) (T := TX1) (N := 9) hx hb hts hin hown hK hP 0 rfl rfl 0 (by decide) lk7 (fun _ h9 => h9) rfl dX1_take_104 ?_
      refine lv_iload_n hx hb dX1_take_107 rfl (lv_at hl 2 rfl) ?_
      refine lv_iconst (v := 1) hx hb dX1_take_108 (by decide) ?_
      refine lv_isub hx hb dX1_take_109 ?_
      refine lv_topi (fun t19 et19 => ?_)
      refine va_iald hx hb hK hP 1 0 rfl rfl (by rw [et19]; exact mk_inN hnn (by omega) (fun h => c14 h)) dX1_take_110 ?_
      refine lv_topi (fun t20 et20 => ?_)
      refine va_put (D := D) (ci := 1) (v := .int t20) (ty := .int) (C := RX1) (T := TX1) (N := 9) hx hb hts hin tyX1 tyX1_ok nmX1 hown hK hP hD hS 0 rfl rfl 5 (by decide) lk17 (fun _ h9 => h9) rfl (by decide +kernel) rfl rfl (Nat.le_of_ble_eq_true rfl) dX1_take_111 (fun H locs hP hD hS => ?_)
      have hP : va_P D vwCl (mkW cR cY m0 m1 m2 (ro, sz, op, kd, tk, t20, t18, bt, mn)) H := hP
      have hD : va_D A (mkW cR cY m0 m1 m2 (ro, sz, op, kd, tk, t20, t18, bt, mn)) := hD
      refine lv_iload_n hx hb dX1_take_114 rfl (lv_at hl 2 rfl) ?_
      refine lv_istore (lv' := [(4, .int t13), (2, .long t17), (1, .int t13), (0, .ref m0)]) hx hb dX1_take_115 hl (by decide) rfl (fun ls hl => ?_)
      have hcs : (sz - t13).toNatClampNeg = zz - nn0 := by rw [hz1, hnn, pk_sub hnz, nI_clamp (by omega)]
      refine cM_takeL2 l D cR cY m0 m1 m2 sz op kd tk t20 t18 bt mn t13 t17 (mk_sh ro t13 t13 (zz - nn0)) nn0 hnn hx hb hts hown hml hK (fun k H locs ls hP hD hS hl => ?_) (zz - nn0) nn0 ro t13 _ _ ls hnn (by rw [hz1]; congr 1; omega) (by omega) (Nat.le_refl _) rfl hP hD hS (lv_sub hl [0, 1, 2, 3] rfl)
      obtain ⟨g21, eg21⟩ : ∃ y : Nat → Int32, y = mk_sh ro t13 t13 (sz - t13).toNatClampNeg := ⟨_, rfl⟩
      rw [← hcs, ← eg21] at hP hD
      refine lv_aload_n hx hb dX1_take_148 rfl (lv_at hl 3 rfl) ?_
      refine lv_aload_n hx hb dX1_take_149 rfl (lv_at hl 3 rfl) ?_
      refine va_get (D := D) (ci := 1) (v := .int sz) (C := RX1) (T := TX1) (N := 9) hx hb hts hin hown hK hP 0 rfl rfl 1 (by decide) lk23 (fun _ h9 => h9) rfl dX1_take_150 ?_
      refine lv_iload_n hx hb dX1_take_153 rfl (lv_at hl 2 rfl) ?_
      refine lv_isub hx hb dX1_take_154 ?_
      refine lv_topi (fun t22 et22 => ?_)
      refine va_put (D := D) (ci := 1) (v := .int t22) (ty := .int) (C := RX1) (T := TX1) (N := 9) hx hb hts hin tyX1 tyX1_ok nmX1 hown hK hP hD hS 0 rfl rfl 1 (by decide) lk23 (fun _ h9 => h9) rfl (by decide +kernel) rfl rfl (Nat.le_of_ble_eq_true rfl) dX1_take_155 (fun H locs hP hD hS => ?_)
      have hP : va_P D vwCl (mkW cR cY m0 m1 m2 (g21, t22, op, kd, tk, t20, t18, bt, mn)) H := hP
      have hD : va_D A (mkW cR cY m0 m1 m2 (g21, t22, op, kd, tk, t20, t18, bt, mn)) := hD
      refine lv_aload_n hx hb dX1_take_158 rfl (lv_at hl 3 rfl) ?_
      refine lv_aload_n hx hb dX1_take_159 rfl (lv_at hl 3 rfl) ?_
      refine va_get (D := D) (ci := 1) (v := .int tk) (C := RX1) (T := TX1) (N := 9) hx hb hts hin hown hK hP 0 rfl rfl 4 (by decide) lk50 (fun _ h9 => h9) rfl dX1_take_160 ?_
      refine lv_iload_n hx hb dX1_take_163 rfl (lv_at hl 2 rfl) ?_
      refine lv_iadd hx hb dX1_take_164 ?_
      refine lv_topi (fun t23 et23 => ?_)
      refine va_put (D := D) (ci := 1) (v := .int t23) (ty := .int) (C := RX1) (T := TX1) (N := 9) hx hb hts hin tyX1 tyX1_ok nmX1 hown hK hP hD hS 0 rfl rfl 4 (by decide) lk50 (fun _ h9 => h9) rfl (by decide +kernel) rfl rfl (Nat.le_of_ble_eq_true rfl) dX1_take_165 (fun H locs hP hD hS => ?_)
      have hP : va_P D vwCl (mkW cR cY m0 m1 m2 (g21, t22, op, kd, t23, t20, t18, bt, mn)) H := hP
      have hD : va_D A (mkW cR cY m0 m1 m2 (g21, t22, op, kd, t23, t20, t18, bt, mn)) := hD
      refine lv_lload_n hx hb dX1_take_168 rfl (lv_at hl 1 rfl) ?_
      have hres : t17 = (mk_take (ro, sz, op, kd, tk, la, li, bt, mn)).1 := by
        subst et23 et22 eg21 et20 et19 et18 et17 et16 et15 et13 et1
        first | rfl | (simp only [mk_take, mk_take2, mk_n, mk_tk, if_neg c2, if_pos c14]; done) | (simp [mk_take, mk_take2, mk_n, mk_tk, if_neg c2, if_pos c14]; done)
      have hre2 : (g21, t22, op, kd, t23, t20, t18, bt, mn) = (mk_take (ro, sz, op, kd, tk, la, li, bt, mn)).2 := by
        subst et23 et22 eg21 et20 et19 et18 et17 et16 et15 et13 et1
        first | rfl | (simp only [mk_take, mk_take2, mk_n, mk_tk, if_neg c2, if_pos c14]; done) | (simp [mk_take, mk_take2, mk_n, mk_tk, if_neg c2, if_pos c14]; done)
      exact W.lret (v := t17) hx hb hr (fun t ht hW => ⟨⟨t17, (g21, t22, op, kd, t23, t20, t18, bt, mn), rfl, ⟨hres, hre2⟩, by show va_P D vwCl _ t.heap; rw [ht]; exact hP⟩, hS.F ht⟩) hS.2.2 dX1_take_169
    · refine lv_lconst (v := 0) hx hb dX1_take_33 (by decide) ?_
      have hres : 0 = (mk_take (ro, sz, op, kd, tk, la, li, bt, mn)).1 := by
        subst et13 et1
        first | rfl | (simp only [mk_take, mk_take2, mk_n, mk_tk, if_neg c2, if_neg (not_not_intro c14)]; done) | (simp [mk_take, mk_take2, mk_n, mk_tk, if_neg c2, if_neg (not_not_intro c14)]; done)
      have hre2 : (ro, sz, op, kd, tk, la, li, bt, mn) = (mk_take (ro, sz, op, kd, tk, la, li, bt, mn)).2 := by
        subst et13 et1
        first | rfl | (simp only [mk_take, mk_take2, mk_n, mk_tk, if_neg c2, if_neg (not_not_intro c14)]; done) | (simp [mk_take, mk_take2, mk_n, mk_tk, if_neg c2, if_neg (not_not_intro c14)]; done)
      exact W.lret (v := 0) hx hb hr (fun t ht hW => ⟨⟨0, (ro, sz, op, kd, tk, la, li, bt, mn), rfl, ⟨hres, hre2⟩, by show va_P D vwCl _ t.heap; rw [ht]; exact hP⟩, hS.F ht⟩) hS.2.2 dX1_take_34
set_option maxHeartbeats 4000000 in
set_option maxRecDepth 100000 in
theorem cM_init (l : Launch) (D : va_G) (q0 sz : Nat) : Met l yX1_init wsX1_init ({ frames := 1, cells := 2, slots := 3004, locals := 12 }) (va_Pc [.ref q0] (fun U => U.heap.size = sz ∧ va_P D vwCl [(q0, .inr (1, [.null, .int 0, .int 0, .int 0, .int 0, .int 0, .int 0, .null, .int 0]))] U.heap ∧ va_K D vwCl [] U ∧ va_D (fun _ => True) [(q0, .inr (1, [.null, .int 0, .int 0, .int 0, .int 0, .int 0, .int 0, .null, .int 0]))])) (va_Qv (fun _ : ClassId × Nat × ClassId × Nat => True) (fun (u : ClassId × Nat × ClassId × Nat) t => va_P D vwCl [(q0, .inr (1, [.ref u.2.1, .int 0, .int 0, .int (-1), .int 0, .int 10, .int 0, .ref u.2.2.2, .int 0])), (u.2.1, .inl (u.1, 3000, .inl (fun _ => 0))), (u.2.2.2, .inl (u.2.2.1, 4, .inl (fun _ => 0)))] t.heap ∧ va_K D vwCl [(u.1, .int), (u.2.2.1, .int)] t ∧ va_D (va_A [(q0, .inr (1, [.null, .int 0, .int 0, .int 0, .int 0, .int 0, .int 0, .null, .int 0]))] sz) [(q0, .inr (1, [.ref u.2.1, .int 0, .int 0, .int (-1), .int 0, .int 10, .int 0, .ref u.2.2.2, .int 0])), (u.2.1, .inl (u.1, 3000, .inl (fun _ => 0))), (u.2.2.2, .inl (u.2.2.1, 4, .inl (fun _ => 0)))]) (va_A [(q0, .inr (1, [.null, .int 0, .int 0, .int 0, .int 0, .int 0, .int 0, .null, .int 0]))] sz)) 2 3004 (va_A [(q0, .inr (1, [.null, .int 0, .int 0, .int 0, .int 0, .int 0, .int 0, .null, .int 0]))] sz) := by
  refine Met.ofW (cc := cX1_init) (maxL := 1) (ret := none) (by decide) rfl ?_
  intro p e s m args below meth c s₁ B hml hv
  obtain ⟨rfl, hsz, hP, hK, hD0⟩ := hv
  have hx := B.exec
  have hb := B.bytes
  have hr := B.returns
  have hts := atoms_spec (ws := wsX1_init) B.pre
  have hown : s.vm.findClass RX1 = some m.cls := findClass_of_methodNamed B.named
  have hlocks := B.notSynchronized
  have hnm : meth.name = "<init>" := (name_of_methodNamed B.named B.method).1
  subst hsz
  have hD := hD0.self (sz := s.heap.size)
  have hin : ∀ w ∈ wsX10, w ∈ wsX1_init := by decide +kernel
  generalize hAe : va_A [(q0, .inr (1, [.null, .int 0, .int 0, .int 0, .int 0, .int 0, .int 0, .null, .int 0]))] s.heap.size = A at hD ⊢
  have hA : ∀ q : Nat, s.heap.size ≤ q → A q := fun q h => by rw [← hAe]; exact Or.inr h
  have hS : va_S A s.heap s.heap [] := va_S.rf
  have hl := lv_entry ([.ref q0]) (n := 1) (Nat.le_of_ble_eq_true rfl)
  rw [lg_entry_eq]
  generalize (lg_sl ([.ref q0]) ++ List.replicate (1 - (lg_sl ([.ref q0])).length) Slot.unset).toArray = ls at hl ⊢
  have hl : lv_has ls 1 [(0, .ref q0)] := hl
  refine lv_aload_n hx hb dX1_init_0 rfl (lv_at hl 0 rfl) ?_
  refine W.objInit hx hb hown (hts (.methodLink RX1 1 objectInit) (by decide +kernel)) (hts (.instanceMethod objectInit) (by decide +kernel)) (hts (.code objectInit ⟨#[0xb1]⟩ 1 none) (List.mem_of_getElem? (i := 3) rfl)) rfl (by rw [hml]; exact hl.1) rfl dX1_init_1 (Nat.le_of_ble_eq_true rfl) (Nat.le_of_ble_eq_true rfl) ?_
  refine W.eq (g2 := F0 m 4 ls []) rfl ?_
  refine lv_aload_n hx hb dX1_init_4 rfl (lv_at hl 0 rfl) ?_
  refine lv_sipush (v := 3000) hx hb dX1_init_5 (by decide) ?_
  refine va_newa (atype := .int) (a0 := (3000, .inl (fun _ => 0))) (N' := 3000) (ty := .int) hx hb (hts (.arrayClass .int) (by decide +kernel)) rfl hK hP hD hS hA (fun cA => vp_cell_i cA 3000 (fun _ => 0)) (by decide +kernel) (by decide +kernel) (by decide +kernel) (Nat.le_of_ble_eq_true rfl) (show 0 + 3000 ≤ 3004 from by decide +kernel) dX1_init_8 (fun q1 cA1 H hK hP hD hS => ?_)
  have hP : va_P D vwCl [(q0, .inr (1, [.null, .int 0, .int 0, .int 0, .int 0, .int 0, .int 0, .null, .int 0])), (q1, .inl (cA1, 3000, .inl (fun _ => 0)))] H := hP
  have hD : va_D A [(q0, .inr (1, [.null, .int 0, .int 0, .int 0, .int 0, .int 0, .int 0, .null, .int 0])), (q1, .inl (cA1, 3000, .inl (fun _ => 0)))] := hD
  have hK : va_K D vwCl [(cA1, .int)] s := hK
  refine W.widen (k := 1) (n := 3000) (by omega) (by omega) ?_
  refine va_putF (D := D) (ci := 1) (v := .ref q1) (ty := .array .int) (C := RX1) (T := TX1) (N := 9) hx hb hts hin tyX1 tyX1_ok nmX1 hown hK hP hD hS 0 rfl rfl 0 (by decide) (hts (.fieldLink RX1 7 "EventLineDeskModel" "row" "[I") (by decide +kernel)) (fun _ h9 => h9) rfl hnm rfl (by decide +kernel) rfl rfl (Nat.le_of_ble_eq_true rfl) dX1_init_10 (fun H locs hP hD hS => ?_)
  have hP : va_P D vwCl [(q0, .inr (1, [.ref q1, .int 0, .int 0, .int 0, .int 0, .int 0, .int 0, .null, .int 0])), (q1, .inl (cA1, 3000, .inl (fun _ => 0)))] H := hP
  have hD : va_D A [(q0, .inr (1, [.ref q1, .int 0, .int 0, .int 0, .int 0, .int 0, .int 0, .null, .int 0])), (q1, .inl (cA1, 3000, .inl (fun _ => 0)))] := hD
  refine lv_aload_n hx hb dX1_init_13 rfl (lv_at hl 0 rfl) ?_
  refine lv_iconst (v := (-1)) hx hb dX1_init_14 (by decide) ?_
  refine va_put (D := D) (ci := 1) (v := .int (-1)) (ty := .int) (C := RX1) (T := TX1) (N := 9) hx hb hts hin tyX1 tyX1_ok nmX1 hown hK hP hD hS 0 rfl rfl 3 (by decide) (hts (.fieldLink RX1 13 "EventLineDeskModel" "kind" "I") (by decide +kernel)) (fun _ h9 => h9) rfl (by decide +kernel) rfl rfl (Nat.le_of_ble_eq_true rfl) dX1_init_15 (fun H locs hP hD hS => ?_)
  have hP : va_P D vwCl [(q0, .inr (1, [.ref q1, .int 0, .int 0, .int (-1), .int 0, .int 0, .int 0, .null, .int 0])), (q1, .inl (cA1, 3000, .inl (fun _ => 0)))] H := hP
  have hD : va_D A [(q0, .inr (1, [.ref q1, .int 0, .int 0, .int (-1), .int 0, .int 0, .int 0, .null, .int 0])), (q1, .inl (cA1, 3000, .inl (fun _ => 0)))] := hD
  refine lv_aload_n hx hb dX1_init_18 rfl (lv_at hl 0 rfl) ?_
  refine lv_bipush (v := 10) hx hb dX1_init_19 (by decide) ?_
  refine va_put (D := D) (ci := 1) (v := .int 10) (ty := .int) (C := RX1) (T := TX1) (N := 9) hx hb hts hin tyX1 tyX1_ok nmX1 hown hK hP hD hS 0 rfl rfl 5 (by decide) (hts (.fieldLink RX1 17 "EventLineDeskModel" "last" "I") (by decide +kernel)) (fun _ h9 => h9) rfl (by decide +kernel) rfl rfl (Nat.le_of_ble_eq_true rfl) dX1_init_21 (fun H locs hP hD hS => ?_)
  have hP : va_P D vwCl [(q0, .inr (1, [.ref q1, .int 0, .int 0, .int (-1), .int 0, .int 10, .int 0, .null, .int 0])), (q1, .inl (cA1, 3000, .inl (fun _ => 0)))] H := hP
  have hD : va_D A [(q0, .inr (1, [.ref q1, .int 0, .int 0, .int (-1), .int 0, .int 10, .int 0, .null, .int 0])), (q1, .inl (cA1, 3000, .inl (fun _ => 0)))] := hD
  refine lv_aload_n hx hb dX1_init_24 rfl (lv_at hl 0 rfl) ?_
  refine lv_iconst (v := 4) hx hb dX1_init_25 (by decide) ?_
  refine va_newa (atype := .int) (a0 := (4, .inl (fun _ => 0))) (N' := 4) (ty := .int) hx hb (hts (.arrayClass .int) (by decide +kernel)) rfl hK hP hD hS hA (fun cA => vp_cell_i cA 4 (fun _ => 0)) (by decide +kernel) (by decide +kernel) (by decide +kernel) (Nat.le_of_ble_eq_true rfl) (show 3000 + 4 ≤ 3004 from by decide +kernel) dX1_init_26 (fun q2 cA2 H hK hP hD hS => ?_)
  have hP : va_P D vwCl [(q0, .inr (1, [.ref q1, .int 0, .int 0, .int (-1), .int 0, .int 10, .int 0, .null, .int 0])), (q1, .inl (cA1, 3000, .inl (fun _ => 0))), (q2, .inl (cA2, 4, .inl (fun _ => 0)))] H := hP
  have hD : va_D A [(q0, .inr (1, [.ref q1, .int 0, .int 0, .int (-1), .int 0, .int 10, .int 0, .null, .int 0])), (q1, .inl (cA1, 3000, .inl (fun _ => 0))), (q2, .inl (cA2, 4, .inl (fun _ => 0)))] := hD
  have hK : va_K D vwCl [(cA1, .int), (cA2, .int)] s := hK
  refine W.widen (k := 2) (n := 3004) (by omega) (by omega) ?_
  refine va_putF (D := D) (ci := 1) (v := .ref q2) (ty := .array .int) (C := RX1) (T := TX1) (N := 9) hx hb hts hin tyX1 tyX1_ok nmX1 hown hK hP hD hS 0 rfl rfl 7 (by decide) (hts (.fieldLink RX1 20 "EventLineDeskModel" "bytes" "[I") (by decide +kernel)) (fun _ h9 => h9) rfl hnm rfl (by decide +kernel) rfl rfl (Nat.le_of_ble_eq_true rfl) dX1_init_28 (fun H locs hP hD hS => ?_)
  have hP : va_P D vwCl [(q0, .inr (1, [.ref q1, .int 0, .int 0, .int (-1), .int 0, .int 10, .int 0, .ref q2, .int 0])), (q1, .inl (cA1, 3000, .inl (fun _ => 0))), (q2, .inl (cA2, 4, .inl (fun _ => 0)))] H := hP
  have hD : va_D A [(q0, .inr (1, [.ref q1, .int 0, .int 0, .int (-1), .int 0, .int 10, .int 0, .ref q2, .int 0])), (q1, .inl (cA1, 3000, .inl (fun _ => 0))), (q2, .inl (cA2, 4, .inl (fun _ => 0)))] := hD
  exact W.vret hx hb hr (fun t ht hW => ⟨⟨(cA1, q1, cA2, q2), rfl, trivial, by rw [ht]; exact hP, va_K.moved hW.alike hK, hD⟩, hS.F ht⟩) hS.2.2 dX1_init_31
