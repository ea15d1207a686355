set_option maxHeartbeats 4000000 in
set_option maxRecDepth 100000 in
theorem cM_code (l : Launch) (D : va_G) (cR cY : ClassId) (m0 m1 m2 : Nat) (ro : Nat → Int32) (sz op kd tk la li : Int32) (bt : Nat → Int32) (mn : Int32) (x1 : Int32) : mkI l yX1_code wsX1_code ({ frames := 0, cells := 0, slots := 0, locals := 0 }) D cR cY m0 m1 m2 (ro, sz, op, kd, tk, la, li, bt, mn) [.int x1] (mk_code (ro, sz, op, kd, tk, la, li, bt, mn) x1).1 (mk_code (ro, sz, op, kd, tk, la, li, bt, mn) x1).2 := by
  refine kk_of (cc := cX1_code) (maxL := 4) (ret := (some .boolean)) (by decide) rfl (Nat.le_of_ble_eq_true rfl) ?_
  intro p e s m below meth c ls hx hb hr hts hown hlocks hml hnm hP hK hD hl
  have hown : s.vm.findClass RX1 = some m.cls := hown
  have hl : lv_has ls 4 [(0, .ref m0), (1, .int x1)] := hl
  have hin : ∀ w ∈ wsX10, w ∈ wsX1_code := by decide +kernel
  have lk33 := hts (.fieldLink RX1 33 "EventLineDeskModel" "many" "I") (by decide +kernel)
  have lk20 := hts (.fieldLink RX1 20 "EventLineDeskModel" "bytes" "[I") (by decide +kernel)
  generalize hAe : kk_A (mkW cR cY m0 m1 m2 (ro, sz, op, kd, tk, la, li, bt, mn)) = A at hD ⊢
  have hS : va_S A s.heap s.heap [] := va_S.rf
  refine lv_iload_n hx hb dX1_code_0 rfl (lv_at hl 1 rfl) ?_
  refine lv_if_lt (tgt := 22) hx hb dX1_code_1 (by decide) (fun c1 => ?_) (fun c1 => ?_)
  · refine lv_iconst (v := 0) hx hb dX1_code_22 (by decide) ?_
    have hres : 0 = (mk_code (ro, sz, op, kd, tk, la, li, bt, mn) x1).1 := by
      first | rfl | (simp only [mk_code, mk_c3, mk_cm, mk_sb, mk_by1, mk_by2, mk_by3, mk_by4, mk_c4, mk_rem, if_pos c1]; done) | (simp [mk_code, mk_c3, mk_cm, mk_sb, mk_by1, mk_by2, mk_by3, mk_by4, mk_c4, mk_rem, if_pos c1]; done)
    have hre2 : (ro, sz, op, kd, tk, la, li, bt, mn) = (mk_code (ro, sz, op, kd, tk, la, li, bt, mn) x1).2 := by
      first | rfl | (simp only [mk_code, mk_c3, mk_cm, mk_sb, mk_by1, mk_by2, mk_by3, mk_by4, mk_c4, mk_rem, if_pos c1]; done) | (simp [mk_code, mk_c3, mk_cm, mk_sb, mk_by1, mk_by2, mk_by3, mk_by4, mk_c4, mk_rem, if_pos c1]; done)
    exact W.zret (v := 0) (ty := .boolean) hx hb hr rfl (fun t ht hW => ⟨⟨0, (ro, sz, op, kd, tk, la, li, bt, mn), rfl, ⟨hres, hre2⟩, by show va_P D vwCl _ t.heap; rw [ht]; exact hP⟩, hS.F ht⟩) hS.2.2 dX1_code_23
  · refine lv_iload_n hx hb dX1_code_4 rfl (lv_at hl 1 rfl) ?_
    refine lv_ldc (v := 1114111) hx hb hown (hts (.constant RX1 29 (1114111)) (by decide +kernel)) dX1_code_5 ?_
    refine lv_icmp_gt (tgt := 22) hx hb dX1_code_7 (by decide) (fun c2 => ?_) (fun c2 => ?_)
    · refine lv_iconst (v := 0) hx hb dX1_code_22 (by decide) ?_
      have hres : 0 = (mk_code (ro, sz, op, kd, tk, la, li, bt, mn) x1).1 := by
        first | rfl | (simp only [mk_code, mk_c3, mk_cm, mk_sb, mk_by1, mk_by2, mk_by3, mk_by4, mk_c4, mk_rem, if_neg c1, if_pos c2]; done) | (simp [mk_code, mk_c3, mk_cm, mk_sb, mk_by1, mk_by2, mk_by3, mk_by4, mk_c4, mk_rem, if_neg c1, if_pos c2]; done)
      have hre2 : (ro, sz, op, kd, tk, la, li, bt, mn) = (mk_code (ro, sz, op, kd, tk, la, li, bt, mn) x1).2 := by
        first | rfl | (simp only [mk_code, mk_c3, mk_cm, mk_sb, mk_by1, mk_by2, mk_by3, mk_by4, mk_c4, mk_rem, if_neg c1, if_pos c2]; done) | (simp [mk_code, mk_c3, mk_cm, mk_sb, mk_by1, mk_by2, mk_by3, mk_by4, mk_c4, mk_rem, if_neg c1, if_pos c2]; done)
      exact W.zret (v := 0) (ty := .boolean) hx hb hr rfl (fun t ht hW => ⟨⟨0, (ro, sz, op, kd, tk, la, li, bt, mn), rfl, ⟨hres, hre2⟩, by show va_P D vwCl _ t.heap; rw [ht]; exact hP⟩, hS.F ht⟩) hS.2.2 dX1_code_23
    · refine lv_iload_n hx hb dX1_code_10 rfl (lv_at hl 1 rfl) ?_
      refine lv_ldc (v := 55296) hx hb hown (hts (.constant RX1 30 (55296)) (by decide +kernel)) dX1_code_11 ?_
      refine lv_icmp_lt (tgt := 24) hx hb dX1_code_13 (by decide) (fun c3 => ?_) (fun c3 => ?_)
      · refine lv_aload_n hx hb dX1_code_24 rfl (lv_at hl 0 rfl) ?_
        refine lv_iload_n hx hb dX1_code_25 rfl (lv_at hl 1 rfl) ?_
        refine lv_sipush (v := 128) hx hb dX1_code_26 (by decide) ?_
        refine lv_icmp_ge (tgt := 36) hx hb dX1_code_29 (by decide) (fun c4 => ?_) (fun c4 => ?_)
        · refine lv_iload_n hx hb dX1_code_36 rfl (lv_at hl 1 rfl) ?_
          refine lv_sipush (v := 2048) hx hb dX1_code_37 (by decide) ?_
          refine lv_icmp_ge (tgt := 47) hx hb dX1_code_40 (by decide) (fun c5 => ?_) (fun c5 => ?_)
          · refine lv_iload_n hx hb dX1_code_47 rfl (lv_at hl 1 rfl) ?_
            refine lv_ldc (v := 65536) hx hb hown (hts (.constant RX1 32 (65536)) (by decide +kernel)) dX1_code_48 ?_
            refine lv_icmp_ge (tgt := 57) hx hb dX1_code_50 (by decide) (fun c6 => ?_) (fun c6 => ?_)
            · refine lv_iconst (v := 4) hx hb dX1_code_57 (by decide) ?_
              refine va_put (D := D) (ci := 1) (v := .int 4) (ty := .int) (C := RX1) (T := TX1) (N := 9) hx hb hts hin tyX1 tyX1_ok nmX1 hown hK hP hD hS 0 rfl rfl 8 (by decide) lk33 (fun _ h9 => h9) rfl (by decide +kernel) rfl rfl (Nat.le_of_ble_eq_true rfl) dX1_code_58 (fun H locs hP hD hS => ?_)
              have hP : va_P D vwCl (mkW cR cY m0 m1 m2 (ro, sz, op, kd, tk, la, li, bt, 4)) H := hP
              have hD : va_D A (mkW cR cY m0 m1 m2 (ro, sz, op, kd, tk, la, li, bt, 4)) := hD
              refine lv_iload_n hx hb dX1_code_61 rfl (lv_at hl 1 rfl) ?_
              refine lv_istore_n (lv' := [(2, .int x1), (0, .ref m0), (1, .int x1)]) hx hb dX1_code_62 rfl hl (by decide) rfl (fun ls hl => ?_)
              refine lv_aload_n hx hb dX1_code_63 rfl (lv_at hl 1 rfl) ?_
              refine va_get (D := D) (ci := 1) (v := .int 4) (C := RX1) (T := TX1) (N := 9) hx hb hts hin hown hK hP 0 rfl rfl 8 (by decide) lk33 (fun _ h9 => h9) rfl dX1_code_64 ?_
              refine lv_iconst (v := 1) hx hb dX1_code_67 (by decide) ?_
              refine lv_isub hx hb dX1_code_68 ?_
              refine lv_topi (fun t7 et7 => ?_)
              obtain rfl : t7 = 3 := by rw [et7]; decide
              refine lv_istore_n (lv' := [(3, .int 3), (2, .int x1), (0, .ref m0), (1, .int x1)]) hx hb dX1_code_69 rfl hl (by decide) rfl (fun ls hl => ?_)
              refine lv_iload_n hx hb dX1_code_70 rfl (lv_at hl 0 rfl) ?_
              refine lv_if_le (tgt := 99) hx hb dX1_code_71 (by decide) (fun c8 => ?_) (fun c8 => ?_)
              · exact absurd c8 (by decide)
              · refine lv_aload_n hx hb dX1_code_74 rfl (lv_at hl 2 rfl) ?_
                refine va_get (D := D) (ci := 1) (v := .ref m2) (C := RX1) (T := TX1) (N := 9) hx hb hts hin hown hK hP 0 rfl rfl 7 (by decide) lk20 (fun _ h9 => h9) rfl dX1_code_75 ?_
                refine lv_iload_n hx hb dX1_code_78 rfl (lv_at hl 0 rfl) ?_
                refine lv_sipush (v := 128) hx hb dX1_code_79 (by decide) ?_
                refine lv_iload_n hx hb dX1_code_82 rfl (lv_at hl 1 rfl) ?_
                refine lv_bipush (v := 64) hx hb dX1_code_83 (by decide) ?_
                refine lv_irem hx hb dX1_code_85 (by decide) ?_
                refine lv_topi (fun t9 et9 => ?_)
                refine lv_iadd hx hb dX1_code_86 ?_
                refine lv_topi (fun t10 et10 => ?_)
                refine va_iast hx hb hK hP hD hS 2 1 rfl rfl (show ¬ ((3 : Int32) < 0 ∨ 4 ≤ (3 : Int32).toNatClampNeg) from by decide) dX1_code_87 (fun H locs hP hD hS => ?_)
                obtain ⟨g11, eg11⟩ : ∃ y : Nat → Int32, y = upd bt (3 : Int32).toNatClampNeg t10 := ⟨_, rfl⟩
                have hP : va_P D vwCl (mkW cR cY m0 m1 m2 (ro, sz, op, kd, tk, la, li, g11, 4)) H := by rw [eg11]; exact hP
                have hD : va_D A (mkW cR cY m0 m1 m2 (ro, sz, op, kd, tk, la, li, g11, 4)) := kk_D_same hD rfl
                refine lv_iload_n hx hb dX1_code_88 rfl (lv_at hl 1 rfl) ?_
                refine lv_bipush (v := 64) hx hb dX1_code_89 (by decide) ?_
                refine lv_idiv hx hb dX1_code_91 (by decide) ?_
                refine lv_topi (fun t12 et12 => ?_)
                refine lv_istore_n (lv' := [(2, .int t12), (3, .int 3), (0, .ref m0), (1, .int x1)]) hx hb dX1_code_92 rfl hl (by decide) rfl (fun ls hl => ?_)
                refine lv_iinc (v := 2) (lv' := [(3, .int 2), (2, .int t12), (0, .ref m0), (1, .int x1)]) hx hb dX1_code_93 hl (k := 1) rfl (by decide) (by decide) rfl (fun ls hl => ?_)
                refine lv_goto (tgt := 70) hx hb dX1_code_96 (by decide) ?_
                refine lv_iload_n hx hb dX1_code_70 rfl (lv_at hl 0 rfl) ?_
                refine lv_if_le (tgt := 99) hx hb dX1_code_71 (by decide) (fun c14 => ?_) (fun c14 => ?_)
                · exact absurd c14 (by decide)
                · refine lv_aload_n hx hb dX1_code_74 rfl (lv_at hl 2 rfl) ?_
                  refine va_get (D := D) (ci := 1) (v := .ref m2) (C := RX1) (T := TX1) (N := 9) hx hb hts hin hown hK hP 0 rfl rfl 7 (by decide) lk20 (fun _ h9 => h9) rfl dX1_code_75 ?_
                  refine lv_iload_n hx hb dX1_code_78 rfl (lv_at hl 0 rfl) ?_
                  refine lv_sipush (v := 128) hx hb dX1_code_79 (by decide) ?_
                  refine lv_iload_n hx hb dX1_code_82 rfl (lv_at hl 1 rfl) ?_
                  refine lv_bipush (v := 64) hx hb dX1_code_83 (by decide) ?_
                  refine lv_irem hx hb dX1_code_85 (by decide) ?_
                  refine lv_topi (fun t15 et15 => ?_)
                  refine lv_iadd hx hb dX1_code_86 ?_
                  refine lv_topi (fun t16 et16 => ?_)
                  refine va_iast hx hb hK hP hD hS 2 1 rfl rfl (show ¬ ((2 : Int32) < 0 ∨ 4 ≤ (2 : Int32).toNatClampNeg) from by decide) dX1_code_87 (fun H locs hP hD hS => ?_)
                  obtain ⟨g17, eg17⟩ : ∃ y : Nat → Int32, y = upd g11 (2 : Int32).toNatClampNeg t16 := ⟨_, rfl⟩
                  have hP : va_P D vwCl (mkW cR cY m0 m1 m2 (ro, sz, op, kd, tk, la, li, g17, 4)) H := by rw [eg17]; exact hP
                  have hD : va_D A (mkW cR cY m0 m1 m2 (ro, sz, op, kd, tk, la, li, g17, 4)) := kk_D_same hD rfl
                  refine lv_iload_n hx hb dX1_code_88 rfl (lv_at hl 1 rfl) ?_
                  refine lv_bipush (v := 64) hx hb dX1_code_89 (by decide) ?_
                  refine lv_idiv hx hb dX1_code_91 (by decide) ?_
                  refine lv_topi (fun t18 et18 => ?_)
                  refine lv_istore_n (lv' := [(2, .int t18), (3, .int 2), (0, .ref m0), (1, .int x1)]) hx hb dX1_code_92 rfl hl (by decide) rfl (fun ls hl => ?_)
                  refine lv_iinc (v := 1) (lv' := [(3, .int 1), (2, .int t18), (0, .ref m0), (1, .int x1)]) hx hb dX1_code_93 hl (k := 1) rfl (by decide) (by decide) rfl (fun ls hl => ?_)
                  refine lv_goto (tgt := 70) hx hb dX1_code_96 (by decide) ?_
                  refine lv_iload_n hx hb dX1_code_70 rfl (lv_at hl 0 rfl) ?_
                  refine lv_if_le (tgt := 99) hx hb dX1_code_71 (by decide) (fun c20 => ?_) (fun c20 => ?_)
                  · exact absurd c20 (by decide)
                  · refine lv_aload_n hx hb dX1_code_74 rfl (lv_at hl 2 rfl) ?_
                    refine va_get (D := D) (ci := 1) (v := .ref m2) (C := RX1) (T := TX1) (N := 9) hx hb hts hin hown hK hP 0 rfl rfl 7 (by decide) lk20 (fun _ h9 => h9) rfl dX1_code_75 ?_
                    refine lv_iload_n hx hb dX1_code_78 rfl (lv_at hl 0 rfl) ?_
                    refine lv_sipush (v := 128) hx hb dX1_code_79 (by decide) ?_
                    refine lv_iload_n hx hb dX1_code_82 rfl (lv_at hl 1 rfl) ?_
                    refine lv_bipush (v := 64) hx hb dX1_code_83 (by decide) ?_
                    refine lv_irem hx hb dX1_code_85 (by decide) ?_
                    refine lv_topi (fun t21 et21 => ?_)
                    refine lv_iadd hx hb dX1_code_86 ?_
                    refine lv_topi (fun t22 et22 => ?_)
                    refine va_iast hx hb hK hP hD hS 2 1 rfl rfl (show ¬ ((1 : Int32) < 0 ∨ 4 ≤ (1 : Int32).toNatClampNeg) from by decide) dX1_code_87 (fun H locs hP hD hS => ?_)
                    obtain ⟨g23, eg23⟩ : ∃ y : Nat → Int32, y = upd g17 (1 : Int32).toNatClampNeg t22 := ⟨_, rfl⟩
                    have hP : va_P D vwCl (mkW cR cY m0 m1 m2 (ro, sz, op, kd, tk, la, li, g23, 4)) H := by rw [eg23]; exact hP
                    have hD : va_D A (mkW cR cY m0 m1 m2 (ro, sz, op, kd, tk, la, li, g23, 4)) := kk_D_same hD rfl
                    refine lv_iload_n hx hb dX1_code_88 rfl (lv_at hl 1 rfl) ?_
                    refine lv_bipush (v := 64) hx hb dX1_code_89 (by decide) ?_
                    refine lv_idiv hx hb dX1_code_91 (by decide) ?_
                    refine lv_topi (fun t24 et24 => ?_)
                    refine lv_istore_n (lv' := [(2, .int t24), (3, .int 1), (0, .ref m0), (1, .int x1)]) hx hb dX1_code_92 rfl hl (by decide) rfl (fun ls hl => ?_)
                    refine lv_iinc (v := 0) (lv' := [(3, .int 0), (2, .int t24), (0, .ref m0), (1, .int x1)]) hx hb dX1_code_93 hl (k := 1) rfl (by decide) (by decide) rfl (fun ls hl => ?_)
                    refine lv_goto (tgt := 70) hx hb dX1_code_96 (by decide) ?_
                    refine lv_iload_n hx hb dX1_code_70 rfl (lv_at hl 0 rfl) ?_
                    refine lv_if_le (tgt := 99) hx hb dX1_code_71 (by decide) (fun c26 => ?_) (fun c26 => ?_)
                    · refine lv_aload_n hx hb dX1_code_99 rfl (lv_at hl 2 rfl) ?_
                      refine va_get (D := D) (ci := 1) (v := .ref m2) (C := RX1) (T := TX1) (N := 9) hx hb hts hin hown hK hP 0 rfl rfl 7 (by decide) lk20 (fun _ h9 => h9) rfl dX1_code_100 ?_
                      refine lv_iconst (v := 0) hx hb dX1_code_103 (by decide) ?_
                      refine lv_aload_n hx hb dX1_code_104 rfl (lv_at hl 2 rfl) ?_
                      refine va_get (D := D) (ci := 1) (v := .int 4) (C := RX1) (T := TX1) (N := 9) hx hb hts hin hown hK hP 0 rfl rfl 8 (by decide) lk33 (fun _ h9 => h9) rfl dX1_code_105 ?_
                      refine lv_iconst (v := 1) hx hb dX1_code_108 (by decide) ?_
                      refine lv_icmp_ne (tgt := 116) hx hb dX1_code_109 (by decide) (fun c27 => ?_) (fun c27 => ?_)
                      · refine lv_aload_n hx hb dX1_code_116 rfl (lv_at hl 2 rfl) ?_
                        refine va_get (D := D) (ci := 1) (v := .int 4) (C := RX1) (T := TX1) (N := 9) hx hb hts hin hown hK hP 0 rfl rfl 8 (by decide) lk33 (fun _ h9 => h9) rfl dX1_code_117 ?_
                        refine lv_iconst (v := 2) hx hb dX1_code_120 (by decide) ?_
                        refine lv_icmp_ne (tgt := 132) hx hb dX1_code_121 (by decide) (fun c28 => ?_) (fun c28 => ?_)
                        · refine lv_aload_n hx hb dX1_code_132 rfl (lv_at hl 2 rfl) ?_
                          refine va_get (D := D) (ci := 1) (v := .int 4) (C := RX1) (T := TX1) (N := 9) hx hb hts hin hown hK hP 0 rfl rfl 8 (by decide) lk33 (fun _ h9 => h9) rfl dX1_code_133 ?_
                          refine lv_iconst (v := 3) hx hb dX1_code_136 (by decide) ?_
                          refine lv_icmp_ne (tgt := 148) hx hb dX1_code_137 (by decide) (fun c29 => ?_) (fun c29 => ?_)
                          · refine lv_sipush (v := 240) hx hb dX1_code_148 (by decide) ?_
                            refine lv_iload_n hx hb dX1_code_151 rfl (lv_at hl 1 rfl) ?_
                            refine lv_iadd hx hb dX1_code_152 ?_
                            refine lv_topi (fun t30 et30 => ?_)
                            refine va_iast hx hb hK hP hD hS 2 1 rfl rfl (show ¬ ((0 : Int32) < 0 ∨ 4 ≤ (0 : Int32).toNatClampNeg) from by decide) dX1_code_153 (fun H locs hP hD hS => ?_)
                            obtain ⟨g31, eg31⟩ : ∃ y : Nat → Int32, y = upd g23 (0 : Int32).toNatClampNeg t30 := ⟨_, rfl⟩
                            have hP : va_P D vwCl (mkW cR cY m0 m1 m2 (ro, sz, op, kd, tk, la, li, g31, 4)) H := by rw [eg31]; exact hP
                            have hD : va_D A (mkW cR cY m0 m1 m2 (ro, sz, op, kd, tk, la, li, g31, 4)) := kk_D_same hD rfl
                            refine lv_iload_n hx hb dX1_code_154 rfl (lv_at hl 3 rfl) ?_
                            refine lv_bipush (v := 92) hx hb dX1_code_155 (by decide) ?_
                            refine lv_icmp_ne (tgt := 165) hx hb dX1_code_157 (by decide) (fun c32 => ?_) (fun c32 => ?_)
                            · refine lv_iload_n hx hb dX1_code_165 rfl (lv_at hl 3 rfl) ?_
                              refine lv_bipush (v := 10) hx hb dX1_code_166 (by decide) ?_
                              refine lv_icmp_ne (tgt := 176) hx hb dX1_code_168 (by decide) (fun c33 => ?_) (fun c33 => ?_)
                              · refine lv_iload_n hx hb dX1_code_176 rfl (lv_at hl 3 rfl) ?_
                                refine lv_bipush (v := 9) hx hb dX1_code_177 (by decide) ?_
                                refine lv_icmp_ne (tgt := 187) hx hb dX1_code_179 (by decide) (fun c34 => ?_) (fun c34 => ?_)
                                · refine lv_iload_n hx hb dX1_code_187 rfl (lv_at hl 3 rfl) ?_
                                  refine lv_bipush (v := 13) hx hb dX1_code_188 (by decide) ?_
                                  refine lv_icmp_ne (tgt := 198) hx hb dX1_code_190 (by decide) (fun c35 => ?_) (fun c35 => ?_)
                                  · refine lv_iconst (v := 0) hx hb dX1_code_198 (by decide) ?_
                                    refine lv_istore_n (lv' := [(3, .int 0), (2, .int t24), (0, .ref m0), (1, .int x1)]) hx hb dX1_code_199 rfl hl (by decide) rfl (fun ls hl => ?_)
                                    refine lv_iload_n hx hb dX1_code_200 rfl (lv_at hl 0 rfl) ?_
                                    refine lv_if_le (tgt := 224) hx hb dX1_code_201 (by decide) (fun c36 => ?_) (fun c36 => ?_)
                                    · refine lv_iconst (v := 1) hx hb dX1_code_224 (by decide) ?_
                                      have hres : 1 = (mk_code (ro, sz, op, kd, tk, la, li, bt, mn) x1).1 := by
                                        subst eg31 et30 et24 eg23 et22 et21 et18 eg17 et16 et15 et12 eg11 et10 et9
                                        first | rfl | (simp only [mk_code, mk_c3, mk_cm, mk_sb, mk_by1, mk_by2, mk_by3, mk_by4, mk_c4, mk_rem, if_neg c1, if_neg c2, if_pos c3, if_pos c4, if_pos c5, if_pos c6, if_pos c32, if_pos c33, if_pos c34, if_pos c35]; done) | (simp [mk_code, mk_c3, mk_cm, mk_sb, mk_by1, mk_by2, mk_by3, mk_by4, mk_c4, mk_rem, if_neg c1, if_neg c2, if_pos c3, if_pos c4, if_pos c5, if_pos c6, if_pos c32, if_pos c33, if_pos c34, if_pos c35]; done)
                                      have hre2 : (ro, sz, op, kd, tk, la, li, g31, 4) = (mk_code (ro, sz, op, kd, tk, la, li, bt, mn) x1).2 := by
                                        subst eg31 et30 et24 eg23 et22 et21 et18 eg17 et16 et15 et12 eg11 et10 et9
                                        first | rfl | (simp only [mk_code, mk_c3, mk_cm, mk_sb, mk_by1, mk_by2, mk_by3, mk_by4, mk_c4, mk_rem, if_neg c1, if_neg c2, if_pos c3, if_pos c4, if_pos c5, if_pos c6, if_pos c32, if_pos c33, if_pos c34, if_pos c35]; done) | (simp [mk_code, mk_c3, mk_cm, mk_sb, mk_by1, mk_by2, mk_by3, mk_by4, mk_c4, mk_rem, if_neg c1, if_neg c2, if_pos c3, if_pos c4, if_pos c5, if_pos c6, if_pos c32, if_pos c33, if_pos c34, if_pos c35]; done)
                                      exact W.zret (v := 1) (ty := .boolean) hx hb hr rfl (fun t ht hW => ⟨⟨1, (ro, sz, op, kd, tk, la, li, g31, 4), rfl, ⟨hres, hre2⟩, by show va_P D vwCl _ t.heap; rw [ht]; exact hP⟩, hS.F ht⟩) hS.2.2 dX1_code_225
                                    · exact absurd c36 (by decide)
                                  · refine lv_bipush (v := 114) hx hb dX1_code_193 (by decide) ?_
                                    refine lv_goto (tgt := 199) hx hb dX1_code_195 (by decide) ?_
                                    refine lv_istore_n (lv' := [(3, .int 114), (2, .int t24), (0, .ref m0), (1, .int x1)]) hx hb dX1_code_199 rfl hl (by decide) rfl (fun ls hl => ?_)
                                    refine lv_iload_n hx hb dX1_code_200 rfl (lv_at hl 0 rfl) ?_
                                    refine lv_if_le (tgt := 224) hx hb dX1_code_201 (by decide) (fun c37 => ?_) (fun c37 => ?_)
                                    · exact absurd c37 (by decide)
                                    · refine lv_aload_n hx hb dX1_code_204 rfl (lv_at hl 2 rfl) ?_
                                      refine lv_iconst (v := 2) hx hb dX1_code_205 (by decide) ?_
                                      refine va_put (D := D) (ci := 1) (v := .int 2) (ty := .int) (C := RX1) (T := TX1) (N := 9) hx hb hts hin tyX1 tyX1_ok nmX1 hown hK hP hD hS 0 rfl rfl 8 (by decide) lk33 (fun _ h9 => h9) rfl (by decide +kernel) rfl rfl (Nat.le_of_ble_eq_true rfl) dX1_code_206 (fun H locs hP hD hS => ?_)
                                      have hP : va_P D vwCl (mkW cR cY m0 m1 m2 (ro, sz, op, kd, tk, la, li, g31, 2)) H := hP
                                      have hD : va_D A (mkW cR cY m0 m1 m2 (ro, sz, op, kd, tk, la, li, g31, 2)) := hD
                                      refine lv_aload_n hx hb dX1_code_209 rfl (lv_at hl 2 rfl) ?_
                                      refine va_get (D := D) (ci := 1) (v := .ref m2) (C := RX1) (T := TX1) (N := 9) hx hb hts hin hown hK hP 0 rfl rfl 7 (by decide) lk20 (fun _ h9 => h9) rfl dX1_code_210 ?_
                                      refine lv_iconst (v := 0) hx hb dX1_code_213 (by decide) ?_
                                      refine lv_bipush (v := 92) hx hb dX1_code_214 (by decide) ?_
                                      refine va_iast hx hb hK hP hD hS 2 1 rfl rfl (show ¬ ((0 : Int32) < 0 ∨ 4 ≤ (0 : Int32).toNatClampNeg) from by decide) dX1_code_216 (fun H locs hP hD hS => ?_)
                                      obtain ⟨g38, eg38⟩ : ∃ y : Nat → Int32, y = upd g31 (0 : Int32).toNatClampNeg (92 : Int32) := ⟨_, rfl⟩
                                      have hP : va_P D vwCl (mkW cR cY m0 m1 m2 (ro, sz, op, kd, tk, la, li, g38, 2)) H := by rw [eg38]; exact hP
                                      have hD : va_D A (mkW cR cY m0 m1 m2 (ro, sz, op, kd, tk, la, li, g38, 2)) := kk_D_same hD rfl
                                      refine lv_aload_n hx hb dX1_code_217 rfl (lv_at hl 2 rfl) ?_
                                      refine va_get (D := D) (ci := 1) (v := .ref m2) (C := RX1) (T := TX1) (N := 9) hx hb hts hin hown hK hP 0 rfl rfl 7 (by decide) lk20 (fun _ h9 => h9) rfl dX1_code_218 ?_
                                      refine lv_iconst (v := 1) hx hb dX1_code_221 (by decide) ?_
                                      refine lv_iload_n hx hb dX1_code_222 rfl (lv_at hl 0 rfl) ?_
                                      refine va_iast hx hb hK hP hD hS 2 1 rfl rfl (show ¬ ((1 : Int32) < 0 ∨ 4 ≤ (1 : Int32).toNatClampNeg) from by decide) dX1_code_223 (fun H locs hP hD hS => ?_)
                                      obtain ⟨g39, eg39⟩ : ∃ y : Nat → Int32, y = upd g38 (1 : Int32).toNatClampNeg (114 : Int32) := ⟨_, rfl⟩
                                      have hP : va_P D vwCl (mkW cR cY m0 m1 m2 (ro, sz, op, kd, tk, la, li, g39, 2)) H := by rw [eg39]; exact hP
                                      have hD : va_D A (mkW cR cY m0 m1 m2 (ro, sz, op, kd, tk, la, li, g39, 2)) := kk_D_same hD rfl
                                      refine lv_iconst (v := 1) hx hb dX1_code_224 (by decide) ?_
                                      have hres : 1 = (mk_code (ro, sz, op, kd, tk, la, li, bt, mn) x1).1 := by
                                        subst eg39 eg38 eg31 et30 et24 eg23 et22 et21 et18 eg17 et16 et15 et12 eg11 et10 et9
                                        first | rfl | (simp only [mk_code, mk_c3, mk_cm, mk_sb, mk_by1, mk_by2, mk_by3, mk_by4, mk_c4, mk_rem, if_neg c1, if_neg c2, if_pos c3, if_pos c4, if_pos c5, if_pos c6, if_pos c32, if_pos c33, if_pos c34, if_neg (not_not_intro c35)]; done) | (simp [mk_code, mk_c3, mk_cm, mk_sb, mk_by1, mk_by2, mk_by3, mk_by4, mk_c4, mk_rem, if_neg c1, if_neg c2, if_pos c3, if_pos c4, if_pos c5, if_pos c6, if_pos c32, if_pos c33, if_pos c34, if_neg (not_not_intro c35)]; done)
                                      have hre2 : (ro, sz, op, kd, tk, la, li, g39, 2) = (mk_code (ro, sz, op, kd, tk, la, li, bt, mn) x1).2 := by
                                        subst eg39 eg38 eg31 et30 et24 eg23 et22 et21 et18 eg17 et16 et15 et12 eg11 et10 et9
                                        first | rfl | (simp only [mk_code, mk_c3, mk_cm, mk_sb, mk_by1, mk_by2, mk_by3, mk_by4, mk_c4, mk_rem, if_neg c1, if_neg c2, if_pos c3, if_pos c4, if_pos c5, if_pos c6, if_pos c32, if_pos c33, if_pos c34, if_neg (not_not_intro c35)]; done) | (simp [mk_code, mk_c3, mk_cm, mk_sb, mk_by1, mk_by2, mk_by3, mk_by4, mk_c4, mk_rem, if_neg c1, if_neg c2, if_pos c3, if_pos c4, if_pos c5, if_pos c6, if_pos c32, if_pos c33, if_pos c34, if_neg (not_not_intro c35)]; done)
                                      exact W.zret (v := 1) (ty := .boolean) hx hb hr rfl (fun t ht hW => ⟨⟨1, (ro, sz, op, kd, tk, la, li, g39, 2), rfl, ⟨hres, hre2⟩, by show va_P D vwCl _ t.heap; rw [ht]; exact hP⟩, hS.F ht⟩) hS.2.2 dX1_code_225
                                · refine lv_bipush (v := 116) hx hb dX1_code_182 (by decide) ?_
                                  refine lv_goto (tgt := 199) hx hb dX1_code_184 (by decide) ?_
                                  refine lv_istore_n (lv' := [(3, .int 116), (2, .int t24), (0, .ref m0), (1, .int x1)]) hx hb dX1_code_199 rfl hl (by decide) rfl (fun ls hl => ?_)
                                  refine lv_iload_n hx hb dX1_code_200 rfl (lv_at hl 0 rfl) ?_
                                  refine lv_if_le (tgt := 224) hx hb dX1_code_201 (by decide) (fun c40 => ?_) (fun c40 => ?_)
                                  · exact absurd c40 (by decide)
                                  · refine lv_aload_n hx hb dX1_code_204 rfl (lv_at hl 2 rfl) ?_
                                    refine lv_iconst (v := 2) hx hb dX1_code_205 (by decide) ?_
                                    refine va_put (D := D) (ci := 1) (v := .int 2) (ty := .int) (C := RX1) (T := TX1) (N := 9) hx hb hts hin tyX1 tyX1_ok nmX1 hown hK hP hD hS 0 rfl rfl 8 (by decide) lk33 (fun _ h9 => h9) rfl (by decide +kernel) rfl rfl (Nat.le_of_ble_eq_true rfl) dX1_code_206 (fun H locs hP hD hS => ?_)
                                    have hP : va_P D vwCl (mkW cR cY m0 m1 m2 (ro, sz, op, kd, tk, la, li, g31, 2)) H := hP
                                    have hD : va_D A (mkW cR cY m0 m1 m2 (ro, sz, op, kd, tk, la, li, g31, 2)) := hD
                                    refine lv_aload_n hx hb dX1_code_209 rfl (lv_at hl 2 rfl) ?_
                                    refine va_get (D := D) (ci := 1) (v := .ref m2) (C := RX1) (T := TX1) (N := 9) hx hb hts hin hown hK hP 0 rfl rfl 7 (by decide) lk20 (fun _ h9 => h9) rfl dX1_code_210 ?_
                                    refine lv_iconst (v := 0) hx hb dX1_code_213 (by decide) ?_
                                    refine lv_bipush (v := 92) hx hb dX1_code_214 (by decide) ?_
                                    refine va_iast hx hb hK hP hD hS 2 1 rfl rfl (show ¬ ((0 : Int32) < 0 ∨ 4 ≤ (0 : Int32).toNatClampNeg) from by decide) dX1_code_216 (fun H locs hP hD hS => ?_)
                                    obtain ⟨g41, eg41⟩ : ∃ y : Nat → Int32, y = upd g31 (0 : Int32).toNatClampNeg (92 : Int32) := ⟨_, rfl⟩
                                    have hP : va_P D vwCl (mkW cR cY m0 m1 m2 (ro, sz, op, kd, tk, la, li, g41, 2)) H := by rw [eg41]; exact hP
                                    have hD : va_D A (mkW cR cY m0 m1 m2 (ro, sz, op, kd, tk, la, li, g41, 2)) := kk_D_same hD rfl
                                    refine lv_aload_n hx hb dX1_code_217 rfl (lv_at hl 2 rfl) ?_
                                    refine va_get (D := D) (ci := 1) (v := .ref m2) (C := RX1) (T := TX1) (N := 9) hx hb hts hin hown hK hP 0 rfl rfl 7 (by decide) lk20 (fun _ h9 => h9) rfl dX1_code_218 ?_
                                    refine lv_iconst (v := 1) hx hb dX1_code_221 (by decide) ?_
                                    refine lv_iload_n hx hb dX1_code_222 rfl (lv_at hl 0 rfl) ?_
                                    refine va_iast hx hb hK hP hD hS 2 1 rfl rfl (show ¬ ((1 : Int32) < 0 ∨ 4 ≤ (1 : Int32).toNatClampNeg) from by decide) dX1_code_223 (fun H locs hP hD hS => ?_)
                                    obtain ⟨g42, eg42⟩ : ∃ y : Nat → Int32, y = upd g41 (1 : Int32).toNatClampNeg (116 : Int32) := ⟨_, rfl⟩
                                    have hP : va_P D vwCl (mkW cR cY m0 m1 m2 (ro, sz, op, kd, tk, la, li, g42, 2)) H := by rw [eg42]; exact hP
                                    have hD : va_D A (mkW cR cY m0 m1 m2 (ro, sz, op, kd, tk, la, li, g42, 2)) := kk_D_same hD rfl
                                    refine lv_iconst (v := 1) hx hb dX1_code_224 (by decide) ?_
                                    have hres : 1 = (mk_code (ro, sz, op, kd, tk, la, li, bt, mn) x1).1 := by
                                      subst eg42 eg41 eg31 et30 et24 eg23 et22 et21 et18 eg17 et16 et15 et12 eg11 et10 et9
                                      first | rfl | (simp only [mk_code, mk_c3, mk_cm, mk_sb, mk_by1, mk_by2, mk_by3, mk_by4, mk_c4, mk_rem, if_neg c1, if_neg c2, if_pos c3, if_pos c4, if_pos c5, if_pos c6, if_pos c32, if_pos c33, if_neg (not_not_intro c34)]; done) | (simp [mk_code, mk_c3, mk_cm, mk_sb, mk_by1, mk_by2, mk_by3, mk_by4, mk_c4, mk_rem, if_neg c1, if_neg c2, if_pos c3, if_pos c4, if_pos c5, if_pos c6, if_pos c32, if_pos c33, if_neg (not_not_intro c34)]; done)
                                    have hre2 : (ro, sz, op, kd, tk, la, li, g42, 2) = (mk_code (ro, sz, op, kd, tk, la, li, bt, mn) x1).2 := by
                                      subst eg42 eg41 eg31 et30 et24 eg23 et22 et21 et18 eg17 et16 et15 et12 eg11 et10 et9
                                      first | rfl | (simp only [mk_code, mk_c3, mk_cm, mk_sb, mk_by1, mk_by2, mk_by3, mk_by4, mk_c4, mk_rem, if_neg c1, if_neg c2, if_pos c3, if_pos c4, if_pos c5, if_pos c6, if_pos c32, if_pos c33, if_neg (not_not_intro c34)]; done) | (simp [mk_code, mk_c3, mk_cm, mk_sb, mk_by1, mk_by2, mk_by3, mk_by4, mk_c4, mk_rem, if_neg c1, if_neg c2, if_pos c3, if_pos c4, if_pos c5, if_pos c6, if_pos c32, if_pos c33, if_neg (not_not_intro c34)]; done)
                                    exact W.zret (v := 1) (ty := .boolean) hx hb hr rfl (fun t ht hW => ⟨⟨1, (ro, sz, op, kd, tk, la, li, g42, 2), rfl, ⟨hres, hre2⟩, by show va_P D vwCl _ t.heap; rw [ht]; exact hP⟩, hS.F ht⟩) hS.2.2 dX1_code_225
                              · refine lv_bipush (v := 110) hx hb dX1_code_171 (by decide) ?_
                                refine lv_goto (tgt := 199) hx hb dX1_code_173 (by decide) ?_
                                refine lv_istore_n (lv' := [(3, .int 110), (2, .int t24), (0, .ref m0), (1, .int x1)]) hx hb dX1_code_199 rfl hl (by decide) rfl (fun ls hl => ?_)
                                refine lv_iload_n hx hb dX1_code_200 rfl (lv_at hl 0 rfl) ?_
                                refine lv_if_le (tgt := 224) hx hb dX1_code_201 (by decide) (fun c43 => ?_) (fun c43 => ?_)
                                · exact absurd c43 (by decide)
                                · refine lv_aload_n hx hb dX1_code_204 rfl (lv_at hl 2 rfl) ?_
                                  refine lv_iconst (v := 2) hx hb dX1_code_205 (by decide) ?_
                                  refine va_put (D := D) (ci := 1) (v := .int 2) (ty := .int) (C := RX1) (T := TX1) (N := 9) hx hb hts hin tyX1 tyX1_ok nmX1 hown hK hP hD hS 0 rfl rfl 8 (by decide) lk33 (fun _ h9 => h9) rfl (by decide +kernel) rfl rfl (Nat.le_of_ble_eq_true rfl) dX1_code_206 (fun H locs hP hD hS => ?_)
                                  have hP : va_P D vwCl (mkW cR cY m0 m1 m2 (ro, sz, op, kd, tk, la, li, g31, 2)) H := hP
                                  have hD : va_D A (mkW cR cY m0 m1 m2 (ro, sz, op, kd, tk, la, li, g31, 2)) := hD
                                  refine lv_aload_n hx hb dX1_code_209 rfl (lv_at hl 2 rfl) ?_
                                  refine va_get (D := D) (ci := 1) (v := .ref m2) (C := RX1) (T := TX1) (N := 9) hx hb hts hin hown hK hP 0 rfl rfl 7 (by decide) lk20 (fun _ h9 => h9) rfl dX1_code_210 ?_
                                  refine lv_iconst (v := 0) hx hb dX1_code_213 (by decide) ?_
                                  refine lv_bipush (v := 92) hx hb dX1_code_214 (by decide) ?_
                                  refine va_iast hx hb hK hP hD hS 2 1 rfl rfl (show ¬ ((0 : Int32) < 0 ∨ 4 ≤ (0 : Int32).toNatClampNeg) from by decide) dX1_code_216 (fun H locs hP hD hS => ?_)
                                  obtain ⟨g44, eg44⟩ : ∃ y : Nat → Int32, y = upd g31 (0 : Int32).toNatClampNeg (92 : Int32) := ⟨_, rfl⟩
                                  have hP : va_P D vwCl (mkW cR cY m0 m1 m2 (ro, sz, op, kd, tk, la, li, g44, 2)) H := by rw [eg44]; exact hP
                                  have hD : va_D A (mkW cR cY m0 m1 m2 (ro, sz, op, kd, tk, la, li, g44, 2)) := kk_D_same hD rfl
                                  refine lv_aload_n hx hb dX1_code_217 rfl (lv_at hl 2 rfl) ?_
                                  refine va_get (D := D) (ci := 1) (v := .ref m2) (C := RX1) (T := TX1) (N := 9) hx hb hts hin hown hK hP 0 rfl rfl 7 (by decide) lk20 (fun _ h9 => h9) rfl dX1_code_218 ?_
                                  refine lv_iconst (v := 1) hx hb dX1_code_221 (by decide) ?_
                                  refine lv_iload_n hx hb dX1_code_222 rfl (lv_at hl 0 rfl) ?_
                                  refine va_iast hx hb hK hP hD hS 2 1 rfl rfl (show ¬ ((1 : Int32) < 0 ∨ 4 ≤ (1 : Int32).toNatClampNeg) from by decide) dX1_code_223 (fun H locs hP hD hS => ?_)
                                  obtain ⟨g45, eg45⟩ : ∃ y : Nat → Int32, y = upd g44 (1 : Int32).toNatClampNeg (110 : Int32) := ⟨_, rfl⟩
                                  have hP : va_P D vwCl (mkW cR cY m0 m1 m2 (ro, sz, op, kd, tk, la, li, g45, 2)) H := by rw [eg45]; exact hP
                                  have hD : va_D A (mkW cR cY m0 m1 m2 (ro, sz, op, kd, tk, la, li, g45, 2)) := kk_D_same hD rfl
                                  refine lv_iconst (v := 1) hx hb dX1_code_224 (by decide) ?_
                                  have hres : 1 = (mk_code (ro, sz, op, kd, tk, la, li, bt, mn) x1).1 := by
                                    subst eg45 eg44 eg31 et30 et24 eg23 et22 et21 et18 eg17 et16 et15 et12 eg11 et10 et9
                                    first | rfl | (simp only [mk_code, mk_c3, mk_cm, mk_sb, mk_by1, mk_by2, mk_by3, mk_by4, mk_c4, mk_rem, if_neg c1, if_neg c2, if_pos c3, if_pos c4, if_pos c5, if_pos c6, if_pos c32, if_neg (not_not_intro c33)]; done) | (simp [mk_code, mk_c3, mk_cm, mk_sb, mk_by1, mk_by2, mk_by3, mk_by4, mk_c4, mk_rem, if_neg c1, if_neg c2, if_pos c3, if_pos c4, if_pos c5, if_pos c6, if_pos c32, if_neg (not_not_intro c33)]; done)
                                  have hre2 : (ro, sz, op, kd, tk, la, li, g45, 2) = (mk_code (ro, sz, op, kd, tk, la, li, bt, mn) x1).2 := by
                                    subst eg45 eg44 eg31 et30 et24 eg23 et22 et21 et18 eg17 et16 et15 et12 eg11 et10 et9
                                    first | rfl | (simp only [mk_code, mk_c3, mk_cm, mk_sb, mk_by1, mk_by2, mk_by3, mk_by4, mk_c4, mk_rem, if_neg c1, if_neg c2, if_pos c3, if_pos c4, if_pos c5, if_pos c6, if_pos c32, if_neg (not_not_intro c33)]; done) | (simp [mk_code, mk_c3, mk_cm, mk_sb, mk_by1, mk_by2, mk_by3, mk_by4, mk_c4, mk_rem, if_neg c1, if_neg c2, if_pos c3, if_pos c4, if_pos c5, if_pos c6, if_pos c32, if_neg (not_not_intro c33)]; done)
                                  exact W.zret (v := 1) (ty := .boolean) hx hb hr rfl (fun t ht hW => ⟨⟨1, (ro, sz, op, kd, tk, la, li, g45, 2), rfl, ⟨hres, hre2⟩, by show va_P D vwCl _ t.heap; rw [ht]; exact hP⟩, hS.F ht⟩) hS.2.2 dX1_code_225
                            · refine lv_bipush (v := 92) hx hb dX1_code_160 (by decide) ?_
                              refine lv_goto (tgt := 199) hx hb dX1_code_162 (by decide) ?_
                              refine lv_istore_n (lv' := [(3, .int 92), (2, .int t24), (0, .ref m0), (1, .int x1)]) hx hb dX1_code_199 rfl hl (by decide) rfl (fun ls hl => ?_)
                              refine lv_iload_n hx hb dX1_code_200 rfl (lv_at hl 0 rfl) ?_
                              refine lv_if_le (tgt := 224) hx hb dX1_code_201 (by decide) (fun c46 => ?_) (fun c46 => ?_)
                              · exact absurd c46 (by decide)
                              · refine lv_aload_n hx hb dX1_code_204 rfl (lv_at hl 2 rfl) ?_
                                refine lv_iconst (v := 2) hx hb dX1_code_205 (by decide) ?_
                                refine va_put (D := D) (ci := 1) (v := .int 2) (ty := .int) (C := RX1) (T := TX1) (N := 9) hx hb hts hin tyX1 tyX1_ok nmX1 hown hK hP hD hS 0 rfl rfl 8 (by decide) lk33 (fun _ h9 => h9) rfl (by decide +kernel) rfl rfl (Nat.le_of_ble_eq_true rfl) dX1_code_206 (fun H locs hP hD hS => ?_)
                                have hP : va_P D vwCl (mkW cR cY m0 m1 m2 (ro, sz, op, kd, tk, la, li, g31, 2)) H := hP
                                have hD : va_D A (mkW cR cY m0 m1 m2 (ro, sz, op, kd, tk, la, li, g31, 2)) := hD
                                refine lv_aload_n hx hb dX1_code_209 rfl (lv_at hl 2 rfl) ?_
                                refine va_get (D := D) (ci := 1) (v := .ref m2) (C := RX1) (T := TX1) (N := 9) hx hb hts hin hown hK hP 0 rfl rfl 7 (by decide) lk20 (fun _ h9 => h9) rfl dX1_code_210 ?_
                                refine lv_iconst (v := 0) hx hb dX1_code_213 (by decide) ?_
                                refine lv_bipush (v := 92) hx hb dX1_code_214 (by decide) ?_
                                refine va_iast hx hb hK hP hD hS 2 1 rfl rfl (show ¬ ((0 : Int32) < 0 ∨ 4 ≤ (0 : Int32).toNatClampNeg) from by decide) dX1_code_216 (fun H locs hP hD hS => ?_)
                                obtain ⟨g47, eg47⟩ : ∃ y : Nat → Int32, y = upd g31 (0 : Int32).toNatClampNeg (92 : Int32) := ⟨_, rfl⟩
                                have hP : va_P D vwCl (mkW cR cY m0 m1 m2 (ro, sz, op, kd, tk, la, li, g47, 2)) H := by rw [eg47]; exact hP
                                have hD : va_D A (mkW cR cY m0 m1 m2 (ro, sz, op, kd, tk, la, li, g47, 2)) := kk_D_same hD rfl
                                refine lv_aload_n hx hb dX1_code_217 rfl (lv_at hl 2 rfl) ?_
                                refine va_get (D := D) (ci := 1) (v := .ref m2) (C := RX1) (T := TX1) (N := 9) hx hb hts hin hown hK hP 0 rfl rfl 7 (by decide) lk20 (fun _ h9 => h9) rfl dX1_code_218 ?_
                                refine lv_iconst (v := 1) hx hb dX1_code_221 (by decide) ?_
                                refine lv_iload_n hx hb dX1_code_222 rfl (lv_at hl 0 rfl) ?_
                                refine va_iast hx hb hK hP hD hS 2 1 rfl rfl (show ¬ ((1 : Int32) < 0 ∨ 4 ≤ (1 : Int32).toNatClampNeg) from by decide) dX1_code_223 (fun H locs hP hD hS => ?_)
                                obtain ⟨g48, eg48⟩ : ∃ y : Nat → Int32, y = upd g47 (1 : Int32).toNatClampNeg (92 : Int32) := ⟨_, rfl⟩
                                have hP : va_P D vwCl (mkW cR cY m0 m1 m2 (ro, sz, op, kd, tk, la, li, g48, 2)) H := by rw [eg48]; exact hP
                                have hD : va_D A (mkW cR cY m0 m1 m2 (ro, sz, op, kd, tk, la, li, g48, 2)) := kk_D_same hD rfl
                                refine lv_iconst (v := 1) hx hb dX1_code_224 (by decide) ?_
                                have hres : 1 = (mk_code (ro, sz, op, kd, tk, la, li, bt, mn) x1).1 := by
                                  subst eg48 eg47 eg31 et30 et24 eg23 et22 et21 et18 eg17 et16 et15 et12 eg11 et10 et9
                                  first | rfl | (simp only [mk_code, mk_c3, mk_cm, mk_sb, mk_by1, mk_by2, mk_by3, mk_by4, mk_c4, mk_rem, if_neg c1, if_neg c2, if_pos c3, if_pos c4, if_pos c5, if_pos c6, if_neg (not_not_intro c32)]; done) | (simp [mk_code, mk_c3, mk_cm, mk_sb, mk_by1, mk_by2, mk_by3, mk_by4, mk_c4, mk_rem, if_neg c1, if_neg c2, if_pos c3, if_pos c4, if_pos c5, if_pos c6, if_neg (not_not_intro c32)]; done)
                                have hre2 : (ro, sz, op, kd, tk, la, li, g48, 2) = (mk_code (ro, sz, op, kd, tk, la, li, bt, mn) x1).2 := by
                                  subst eg48 eg47 eg31 et30 et24 eg23 et22 et21 et18 eg17 et16 et15 et12 eg11 et10 et9
                                  first | rfl | (simp only [mk_code, mk_c3, mk_cm, mk_sb, mk_by1, mk_by2, mk_by3, mk_by4, mk_c4, mk_rem, if_neg c1, if_neg c2, if_pos c3, if_pos c4, if_pos c5, if_pos c6, if_neg (not_not_intro c32)]; done) | (simp [mk_code, mk_c3, mk_cm, mk_sb, mk_by1, mk_by2, mk_by3, mk_by4, mk_c4, mk_rem, if_neg c1, if_neg c2, if_pos c3, if_pos c4, if_pos c5, if_pos c6, if_neg (not_not_intro c32)]; done)
                                exact W.zret (v := 1) (ty := .boolean) hx hb hr rfl (fun t ht hW => ⟨⟨1, (ro, sz, op, kd, tk, la, li, g48, 2), rfl, ⟨hres, hre2⟩, by show va_P D vwCl _ t.heap; rw [ht]; exact hP⟩, hS.F ht⟩) hS.2.2 dX1_code_225
                          · exact absurd c29 (by decide)
                        · exact absurd c28 (by decide)
                      · exact absurd c27 (by decide)
                    · exact absurd c26 (by decide)
            · refine lv_iconst (v := 3) hx hb dX1_code_53 (by decide) ?_
              refine lv_goto (tgt := 58) hx hb dX1_code_54 (by decide) ?_
              refine va_put (D := D) (ci := 1) (v := .int 3) (ty := .int) (C := RX1) (T := TX1) (N := 9) hx hb hts hin tyX1 tyX1_ok nmX1 hown hK hP hD hS 0 rfl rfl 8 (by decide) lk33 (fun _ h9 => h9) rfl (by decide +kernel) rfl rfl (Nat.le_of_ble_eq_true rfl) dX1_code_58 (fun H locs hP hD hS => ?_)
              have hP : va_P D vwCl (mkW cR cY m0 m1 m2 (ro, sz, op, kd, tk, la, li, bt, 3)) H := hP
              have hD : va_D A (mkW cR cY m0 m1 m2 (ro, sz, op, kd, tk, la, li, bt, 3)) := hD
              refine lv_iload_n hx hb dX1_code_61 rfl (lv_at hl 1 rfl) ?_
              refine lv_istore_n (lv' := [(2, .int x1), (0, .ref m0), (1, .int x1)]) hx hb dX1_code_62 rfl hl (by decide) rfl (fun ls hl => ?_)
              refine lv_aload_n hx hb dX1_code_63 rfl (lv_at hl 1 rfl) ?_
              refine va_get (D := D) (ci := 1) (v := .int 3) (C := RX1) (T := TX1) (N := 9) hx hb hts hin hown hK hP 0 rfl rfl 8 (by decide) lk33 (fun _ h9 => h9) rfl dX1_code_64 ?_
              refine lv_iconst (v := 1) hx hb dX1_code_67 (by decide) ?_
              refine lv_isub hx hb dX1_code_68 ?_
              refine lv_topi (fun t49 et49 => ?_)
              obtain rfl : t49 = 2 := by rw [et49]; decide
              refine lv_istore_n (lv' := [(3, .int 2), (2, .int x1), (0, .ref m0), (1, .int x1)]) hx hb dX1_code_69 rfl hl (by decide) rfl (fun ls hl => ?_)
              refine lv_iload_n hx hb dX1_code_70 rfl (lv_at hl 0 rfl) ?_
              refine lv_if_le (tgt := 99) hx hb dX1_code_71 (by decide) (fun c50 => ?_) (fun c50 => ?_)
              · exact absurd c50 (by decide)
              · refine lv_aload_n hx hb dX1_code_74 rfl (lv_at hl 2 rfl) ?_
                refine va_get (D := D) (ci := 1) (v := .ref m2) (C := RX1) (T := TX1) (N := 9) hx hb hts hin hown hK hP 0 rfl rfl 7 (by decide) lk20 (fun _ h9 => h9) rfl dX1_code_75 ?_
                refine lv_iload_n hx hb dX1_code_78 rfl (lv_at hl 0 rfl) ?_
                refine lv_sipush (v := 128) hx hb dX1_code_79 (by decide) ?_
                refine lv_iload_n hx hb dX1_code_82 rfl (lv_at hl 1 rfl) ?_
                refine lv_bipush (v := 64) hx hb dX1_code_83 (by decide) ?_
                refine lv_irem hx hb dX1_code_85 (by decide) ?_
                refine lv_topi (fun t51 et51 => ?_)
                refine lv_iadd hx hb dX1_code_86 ?_
                refine lv_topi (fun t52 et52 => ?_)
                refine va_iast hx hb hK hP hD hS 2 1 rfl rfl (show ¬ ((2 : Int32) < 0 ∨ 4 ≤ (2 : Int32).toNatClampNeg) from by decide) dX1_code_87 (fun H locs hP hD hS => ?_)
                obtain ⟨g53, eg53⟩ : ∃ y : Nat → Int32, y = upd bt (2 : Int32).toNatClampNeg t52 := ⟨_, rfl⟩
                have hP : va_P D vwCl (mkW cR cY m0 m1 m2 (ro, sz, op, kd, tk, la, li, g53, 3)) H := by rw [eg53]; exact hP
                have hD : va_D A (mkW cR cY m0 m1 m2 (ro, sz, op, kd, tk, la, li, g53, 3)) := kk_D_same hD rfl
                refine lv_iload_n hx hb dX1_code_88 rfl (lv_at hl 1 rfl) ?_
                refine lv_bipush (v := 64) hx hb dX1_code_89 (by decide) ?_
                refine lv_idiv hx hb dX1_code_91 (by decide) ?_
                refine lv_topi (fun t54 et54 => ?_)
                refine lv_istore_n (lv' := [(2, .int t54), (3, .int 2), (0, .ref m0), (1, .int x1)]) hx hb dX1_code_92 rfl hl (by decide) rfl (fun ls hl => ?_)
                refine lv_iinc (v := 1) (lv' := [(3, .int 1), (2, .int t54), (0, .ref m0), (1, .int x1)]) hx hb dX1_code_93 hl (k := 1) rfl (by decide) (by decide) rfl (fun ls hl => ?_)
                refine lv_goto (tgt := 70) hx hb dX1_code_96 (by decide) ?_
                refine lv_iload_n hx hb dX1_code_70 rfl (lv_at hl 0 rfl) ?_
                refine lv_if_le (tgt := 99) hx hb dX1_code_71 (by decide) (fun c56 => ?_) (fun c56 => ?_)
                · exact absurd c56 (by decide)
                · refine lv_aload_n hx hb dX1_code_74 rfl (lv_at hl 2 rfl) ?_
                  refine va_get (D := D) (ci := 1) (v := .ref m2) (C := RX1) (T := TX1) (N := 9) hx hb hts hin hown hK hP 0 rfl rfl 7 (by decide) lk20 (fun _ h9 => h9) rfl dX1_code_75 ?_
                  refine lv_iload_n hx hb dX1_code_78 rfl (lv_at hl 0 rfl) ?_
                  refine lv_sipush (v := 128) hx hb dX1_code_79 (by decide) ?_
                  refine lv_iload_n hx hb dX1_code_82 rfl (lv_at hl 1 rfl) ?_
                  refine lv_bipush (v := 64) hx hb dX1_code_83 (by decide) ?_
                  refine lv_irem hx hb dX1_code_85 (by decide) ?_
                  refine lv_topi (fun t57 et57 => ?_)
                  refine lv_iadd hx hb dX1_code_86 ?_
                  refine lv_topi (fun t58 et58 => ?_)
                  refine va_iast hx hb hK hP hD hS 2 1 rfl rfl (show ¬ ((1 : Int32) < 0 ∨ 4 ≤ (1 : Int32).toNatClampNeg) from by decide) dX1_code_87 (fun H locs hP hD hS => ?_)
                  obtain ⟨g59, eg59⟩ : ∃ y : Nat → Int32, y = upd g53 (1 : Int32).toNatClampNeg t58 := ⟨_, rfl⟩
                  have hP : va_P D vwCl (mkW cR cY m0 m1 m2 (ro, sz, op, kd, tk, la, li, g59, 3)) H := by rw [eg59]; exact hP
                  have hD : va_D A (mkW cR cY m0 m1 m2 (ro, sz, op, kd, tk, la, li, g59, 3)) := kk_D_same hD rfl
                  refine lv_iload_n hx hb dX1_code_88 rfl (lv_at hl 1 rfl) ?_
                  refine lv_bipush (v := 64) hx hb dX1_code_89 (by decide) ?_
                  refine lv_idiv hx hb dX1_code_91 (by decide) ?_
                  refine lv_topi (fun t60 et60 => ?_)
                  refine lv_istore_n (lv' := [(2, .int t60), (3, .int 1), (0, .ref m0), (1, .int x1)]) hx hb dX1_code_92 rfl hl (by decide) rfl (fun ls hl => ?_)
                  refine lv_iinc (v := 0) (lv' := [(3, .int 0), (2, .int t60), (0, .ref m0), (1, .int x1)]) hx hb dX1_code_93 hl (k := 1) rfl (by decide) (by decide) rfl (fun ls hl => ?_)
                  refine lv_goto (tgt := 70) hx hb dX1_code_96 (by decide) ?_
                  refine lv_iload_n hx hb dX1_code_70 rfl (lv_at hl 0 rfl) ?_
                  refine lv_if_le (tgt := 99) hx hb dX1_code_71 (by decide) (fun c62 => ?_) (fun c62 => ?_)
                  · refine lv_aload_n hx hb dX1_code_99 rfl (lv_at hl 2 rfl) ?_
                    refine va_get (D := D) (ci := 1) (v := .ref m2) (C := RX1) (T := TX1) (N := 9) hx hb hts hin hown hK hP 0 rfl rfl 7 (by decide) lk20 (fun _ h9 => h9) rfl dX1_code_100 ?_
                    refine lv_iconst (v := 0) hx hb dX1_code_103 (by decide) ?_
                    refine lv_aload_n hx hb dX1_code_104 rfl (lv_at hl 2 rfl) ?_
                    refine va_get (D := D) (ci := 1) (v := .int 3) (C := RX1) (T := TX1) (N := 9) hx hb hts hin hown hK hP 0 rfl rfl 8 (by decide) lk33 (fun _ h9 => h9) rfl dX1_code_105 ?_
                    refine lv_iconst (v := 1) hx hb dX1_code_108 (by decide) ?_
                    refine lv_icmp_ne (tgt := 116) hx hb dX1_code_109 (by decide) (fun c63 => ?_) (fun c63 => ?_)
                    · refine lv_aload_n hx hb dX1_code_116 rfl (lv_at hl 2 rfl) ?_
                      refine va_get (D := D) (ci := 1) (v := .int 3) (C := RX1) (T := TX1) (N := 9) hx hb hts hin hown hK hP 0 rfl rfl 8 (by decide) lk33 (fun _ h9 => h9) rfl dX1_code_117 ?_
                      refine lv_iconst (v := 2) hx hb dX1_code_120 (by decide) ?_
                      refine lv_icmp_ne (tgt := 132) hx hb dX1_code_121 (by decide) (fun c64 => ?_) (fun c64 => ?_)
                      · refine lv_aload_n hx hb dX1_code_132 rfl (lv_at hl 2 rfl) ?_
                        refine va_get (D := D) (ci := 1) (v := .int 3) (C := RX1) (T := TX1) (N := 9) hx hb hts hin hown hK hP 0 rfl rfl 8 (by decide) lk33 (fun _ h9 => h9) rfl dX1_code_133 ?_
                        refine lv_iconst (v := 3) hx hb dX1_code_136 (by decide) ?_
                        refine lv_icmp_ne (tgt := 148) hx hb dX1_code_137 (by decide) (fun c65 => ?_) (fun c65 => ?_)
                        · exact absurd c65 (by decide)
                        · refine lv_sipush (v := 224) hx hb dX1_code_140 (by decide) ?_
                          refine lv_iload_n hx hb dX1_code_143 rfl (lv_at hl 1 rfl) ?_
                          refine lv_iadd hx hb dX1_code_144 ?_
                          refine lv_topi (fun t66 et66 => ?_)
                          refine lv_goto (tgt := 153) hx hb dX1_code_145 (by decide) ?_
                          refine va_iast hx hb hK hP hD hS 2 1 rfl rfl (show ¬ ((0 : Int32) < 0 ∨ 4 ≤ (0 : Int32).toNatClampNeg) from by decide) dX1_code_153 (fun H locs hP hD hS => ?_)
                          obtain ⟨g67, eg67⟩ : ∃ y : Nat → Int32, y = upd g59 (0 : Int32).toNatClampNeg t66 := ⟨_, rfl⟩
                          have hP : va_P D vwCl (mkW cR cY m0 m1 m2 (ro, sz, op, kd, tk, la, li, g67, 3)) H := by rw [eg67]; exact hP
                          have hD : va_D A (mkW cR cY m0 m1 m2 (ro, sz, op, kd, tk, la, li, g67, 3)) := kk_D_same hD rfl
                          refine lv_iload_n hx hb dX1_code_154 rfl (lv_at hl 3 rfl) ?_
                          refine lv_bipush (v := 92) hx hb dX1_code_155 (by decide) ?_
                          refine lv_icmp_ne (tgt := 165) hx hb dX1_code_157 (by decide) (fun c68 => ?_) (fun c68 => ?_)
                          · refine lv_iload_n hx hb dX1_code_165 rfl (lv_at hl 3 rfl) ?_
                            refine lv_bipush (v := 10) hx hb dX1_code_166 (by decide) ?_
                            refine lv_icmp_ne (tgt := 176) hx hb dX1_code_168 (by decide) (fun c69 => ?_) (fun c69 => ?_)
                            · refine lv_iload_n hx hb dX1_code_176 rfl (lv_at hl 3 rfl) ?_
                              refine lv_bipush (v := 9) hx hb dX1_code_177 (by decide) ?_
                              refine lv_icmp_ne (tgt := 187) hx hb dX1_code_179 (by decide) (fun c70 => ?_) (fun c70 => ?_)
                              · refine lv_iload_n hx hb dX1_code_187 rfl (lv_at hl 3 rfl) ?_
                                refine lv_bipush (v := 13) hx hb dX1_code_188 (by decide) ?_
                                refine lv_icmp_ne (tgt := 198) hx hb dX1_code_190 (by decide) (fun c71 => ?_) (fun c71 => ?_)
                                · refine lv_iconst (v := 0) hx hb dX1_code_198 (by decide) ?_
                                  refine lv_istore_n (lv' := [(3, .int 0), (2, .int t60), (0, .ref m0), (1, .int x1)]) hx hb dX1_code_199 rfl hl (by decide) rfl (fun ls hl => ?_)
                                  refine lv_iload_n hx hb dX1_code_200 rfl (lv_at hl 0 rfl) ?_
                                  refine lv_if_le (tgt := 224) hx hb dX1_code_201 (by decide) (fun c72 => ?_) (fun c72 => ?_)
                                  · refine lv_iconst (v := 1) hx hb dX1_code_224 (by decide) ?_
                                    have hres : 1 = (mk_code (ro, sz, op, kd, tk, la, li, bt, mn) x1).1 := by
                                      subst eg67 et66 et60 eg59 et58 et57 et54 eg53 et52 et51
                                      first | rfl | (simp only [mk_code, mk_c3, mk_cm, mk_sb, mk_by1, mk_by2, mk_by3, mk_by4, mk_c4, mk_rem, if_neg c1, if_neg c2, if_pos c3, if_pos c4, if_pos c5, if_neg c6, if_pos c68, if_pos c69, if_pos c70, if_pos c71]; done) | (simp [mk_code, mk_c3, mk_cm, mk_sb, mk_by1, mk_by2, mk_by3, mk_by4, mk_c4, mk_rem, if_neg c1, if_neg c2, if_pos c3, if_pos c4, if_pos c5, if_neg c6, if_pos c68, if_pos c69, if_pos c70, if_pos c71]; done)
                                    have hre2 : (ro, sz, op, kd, tk, la, li, g67, 3) = (mk_code (ro, sz, op, kd, tk, la, li, bt, mn) x1).2 := by
                                      subst eg67 et66 et60 eg59 et58 et57 et54 eg53 et52 et51
                                      first | rfl | (simp only [mk_code, mk_c3, mk_cm, mk_sb, mk_by1, mk_by2, mk_by3, mk_by4, mk_c4, mk_rem, if_neg c1, if_neg c2, if_pos c3, if_pos c4, if_pos c5, if_neg c6, if_pos c68, if_pos c69, if_pos c70, if_pos c71]; done) | (simp [mk_code, mk_c3, mk_cm, mk_sb, mk_by1, mk_by2, mk_by3, mk_by4, mk_c4, mk_rem, if_neg c1, if_neg c2, if_pos c3, if_pos c4, if_pos c5, if_neg c6, if_pos c68, if_pos c69, if_pos c70, if_pos c71]; done)
                                    exact W.zret (v := 1) (ty := .boolean) hx hb hr rfl (fun t ht hW => ⟨⟨1, (ro, sz, op, kd, tk, la, li, g67, 3), rfl, ⟨hres, hre2⟩, by show va_P D vwCl _ t.heap; rw [ht]; exact hP⟩, hS.F ht⟩) hS.2.2 dX1_code_225
                                  · exact absurd c72 (by decide)
                                · refine lv_bipush (v := 114) hx hb dX1_code_193 (by decide) ?_
                                  refine lv_goto (tgt := 199) hx hb dX1_code_195 (by decide) ?_
                                  refine lv_istore_n (lv' := [(3, .int 114), (2, .int t60), (0, .ref m0), (1, .int x1)]) hx hb dX1_code_199 rfl hl (by decide) rfl (fun ls hl => ?_)
                                  refine lv_iload_n hx hb dX1_code_200 rfl (lv_at hl 0 rfl) ?_
                                  refine lv_if_le (tgt := 224) hx hb dX1_code_201 (by decide) (fun c73 => ?_) (fun c73 => ?_)
                                  · exact absurd c73 (by decide)
                                  · refine lv_aload_n hx hb dX1_code_204 rfl (lv_at hl 2 rfl) ?_
                                    refine lv_iconst (v := 2) hx hb dX1_code_205 (by decide) ?_
                                    refine va_put (D := D) (ci := 1) (v := .int 2) (ty := .int) (C := RX1) (T := TX1) (N := 9) hx hb hts hin tyX1 tyX1_ok nmX1 hown hK hP hD hS 0 rfl rfl 8 (by decide) lk33 (fun _ h9 => h9) rfl (by decide +kernel) rfl rfl (Nat.le_of_ble_eq_true rfl) dX1_code_206 (fun H locs hP hD hS => ?_)
                                    have hP : va_P D vwCl (mkW cR cY m0 m1 m2 (ro, sz, op, kd, tk, la, li, g67, 2)) H := hP
                                    have hD : va_D A (mkW cR cY m0 m1 m2 (ro, sz, op, kd, tk, la, li, g67, 2)) := hD
                                    refine lv_aload_n hx hb dX1_code_209 rfl (lv_at hl 2 rfl) ?_
                                    refine va_get (D := D) (ci := 1) (v := .ref m2) (C := RX1) (T := TX1) (N := 9) hx hb hts hin hown hK hP 0 rfl rfl 7 (by decide) lk20 (fun _ h9 => h9) rfl dX1_code_210 ?_
                                    refine lv_iconst (v := 0) hx hb dX1_code_213 (by decide) ?_
                                    refine lv_bipush (v := 92) hx hb dX1_code_214 (by decide) ?_
                                    refine va_iast hx hb hK hP hD hS 2 1 rfl rfl (show ¬ ((0 : Int32) < 0 ∨ 4 ≤ (0 : Int32).toNatClampNeg) from by decide) dX1_code_216 (fun H locs hP hD hS => ?_)
                                    obtain ⟨g74, eg74⟩ : ∃ y : Nat → Int32, y = upd g67 (0 : Int32).toNatClampNeg (92 : Int32) := ⟨_, rfl⟩
                                    have hP : va_P D vwCl (mkW cR cY m0 m1 m2 (ro, sz, op, kd, tk, la, li, g74, 2)) H := by rw [eg74]; exact hP
                                    have hD : va_D A (mkW cR cY m0 m1 m2 (ro, sz, op, kd, tk, la, li, g74, 2)) := kk_D_same hD rfl
                                    refine lv_aload_n hx hb dX1_code_217 rfl (lv_at hl 2 rfl) ?_
                                    refine va_get (D := D) (ci := 1) (v := .ref m2) (C := RX1) (T := TX1) (N := 9) hx hb hts hin hown hK hP 0 rfl rfl 7 (by decide) lk20 (fun _ h9 => h9) rfl dX1_code_218 ?_
                                    refine lv_iconst (v := 1) hx hb dX1_code_221 (by decide) ?_
                                    refine lv_iload_n hx hb dX1_code_222 rfl (lv_at hl 0 rfl) ?_
                                    refine va_iast hx hb hK hP hD hS 2 1 rfl rfl (show ¬ ((1 : Int32) < 0 ∨ 4 ≤ (1 : Int32).toNatClampNeg) from by decide) dX1_code_223 (fun H locs hP hD hS => ?_)
                                    obtain ⟨g75, eg75⟩ : ∃ y : Nat → Int32, y = upd g74 (1 : Int32).toNatClampNeg (114 : Int32) := ⟨_, rfl⟩
                                    have hP : va_P D vwCl (mkW cR cY m0 m1 m2 (ro, sz, op, kd, tk, la, li, g75, 2)) H := by rw [eg75]; exact hP
                                    have hD : va_D A (mkW cR cY m0 m1 m2 (ro, sz, op, kd, tk, la, li, g75, 2)) := kk_D_same hD rfl
                                    refine lv_iconst (v := 1) hx hb dX1_code_224 (by decide) ?_
                                    have hres : 1 = (mk_code (ro, sz, op, kd, tk, la, li, bt, mn) x1).1 := by
                                      subst eg75 eg74 eg67 et66 et60 eg59 et58 et57 et54 eg53 et52 et51
                                      first | rfl | (simp only [mk_code, mk_c3, mk_cm, mk_sb, mk_by1, mk_by2, mk_by3, mk_by4, mk_c4, mk_rem, if_neg c1, if_neg c2, if_pos c3, if_pos c4, if_pos c5, if_neg c6, if_pos c68, if_pos c69, if_pos c70, if_neg (not_not_intro c71)]; done) | (simp [mk_code, mk_c3, mk_cm, mk_sb, mk_by1, mk_by2, mk_by3, mk_by4, mk_c4, mk_rem, if_neg c1, if_neg c2, if_pos c3, if_pos c4, if_pos c5, if_neg c6, if_pos c68, if_pos c69, if_pos c70, if_neg (not_not_intro c71)]; done)
                                    have hre2 : (ro, sz, op, kd, tk, la, li, g75, 2) = (mk_code (ro, sz, op, kd, tk, la, li, bt, mn) x1).2 := by
                                      subst eg75 eg74 eg67 et66 et60 eg59 et58 et57 et54 eg53 et52 et51
                                      first | rfl | (simp only [mk_code, mk_c3, mk_cm, mk_sb, mk_by1, mk_by2, mk_by3, mk_by4, mk_c4, mk_rem, if_neg c1, if_neg c2, if_pos c3, if_pos c4, if_pos c5, if_neg c6, if_pos c68, if_pos c69, if_pos c70, if_neg (not_not_intro c71)]; done) | (simp [mk_code, mk_c3, mk_cm, mk_sb, mk_by1, mk_by2, mk_by3, mk_by4, mk_c4, mk_rem, if_neg c1, if_neg c2, if_pos c3, if_pos c4, if_pos c5, if_neg c6, if_pos c68, if_pos c69, if_pos c70, if_neg (not_not_intro c71)]; done)
                                    exact W.zret (v := 1) (ty := .boolean) hx hb hr rfl (fun t ht hW => ⟨⟨1, (ro, sz, op, kd, tk, la, li, g75, 2), rfl, ⟨hres, hre2⟩, by show va_P D vwCl _ t.heap; rw [ht]; exact hP⟩, hS.F ht⟩) hS.2.2 dX1_code_225
                              · refine lv_bipush (v := 116) hx hb dX1_code_182 (by decide) ?_
                                refine lv_goto (tgt := 199) hx hb dX1_code_184 (by decide) ?_
                                refine lv_istore_n (lv' := [(3, .int 116), (2, .int t60), (0, .ref m0), (1, .int x1)]) hx hb dX1_code_199 rfl hl (by decide) rfl (fun ls hl => ?_)
                                refine lv_iload_n hx hb dX1_code_200 rfl (lv_at hl 0 rfl) ?_
                                refine lv_if_le (tgt := 224) hx hb dX1_code_201 (by decide) (fun c76 => ?_) (fun c76 => ?_)
                                · exact absurd c76 (by decide)
                                · refine lv_aload_n hx hb dX1_code_204 rfl (lv_at hl 2 rfl) ?_
                                  refine lv_iconst (v := 2) hx hb dX1_code_205 (by decide) ?_
                                  refine va_put (D := D) (ci := 1) (v := .int 2) (ty := .int) (C := RX1) (T := TX1) (N := 9) hx hb hts hin tyX1 tyX1_ok nmX1 hown hK hP hD hS 0 rfl rfl 8 (by decide) lk33 (fun _ h9 => h9) rfl (by decide +kernel) rfl rfl (Nat.le_of_ble_eq_true rfl) dX1_code_206 (fun H locs hP hD hS => ?_)
                                  have hP : va_P D vwCl (mkW cR cY m0 m1 m2 (ro, sz, op, kd, tk, la, li, g67, 2)) H := hP
                                  have hD : va_D A (mkW cR cY m0 m1 m2 (ro, sz, op, kd, tk, la, li, g67, 2)) := hD
                                  refine lv_aload_n hx hb dX1_code_209 rfl (lv_at hl 2 rfl) ?_
                                  refine va_get (D := D) (ci := 1) (v := .ref m2) (C := RX1) (T := TX1) (N := 9) hx hb hts hin hown hK hP 0 rfl rfl 7 (by decide) lk20 (fun _ h9 => h9) rfl dX1_code_210 ?_
                                  refine lv_iconst (v := 0) hx hb dX1_code_213 (by decide) ?_
                                  refine lv_bipush (v := 92) hx hb dX1_code_214 (by decide) ?_
                                  refine va_iast hx hb hK hP hD hS 2 1 rfl rfl (show ¬ ((0 : Int32) < 0 ∨ 4 ≤ (0 : Int32).toNatClampNeg) from by decide) dX1_code_216 (fun H locs hP hD hS => ?_)
                                  obtain ⟨g77, eg77⟩ : ∃ y : Nat → Int32, y = upd g67 (0 : Int32).toNatClampNeg (92 : Int32) := ⟨_, rfl⟩
                                  have hP : va_P D vwCl (mkW cR cY m0 m1 m2 (ro, sz, op, kd, tk, la, li, g77, 2)) H := by rw [eg77]; exact hP
                                  have hD : va_D A (mkW cR cY m0 m1 m2 (ro, sz, op, kd, tk, la, li, g77, 2)) := kk_D_same hD rfl
                                  refine lv_aload_n hx hb dX1_code_217 rfl (lv_at hl 2 rfl) ?_
                                  refine va_get (D := D) (ci := 1) (v := .ref m2) (C := RX1) (T := TX1) (N := 9) hx hb hts hin hown hK hP 0 rfl rfl 7 (by decide) lk20 (fun _ h9 => h9) rfl dX1_code_218 ?_
                                  refine lv_iconst (v := 1) hx hb dX1_code_221 (by decide) ?_
                                  refine lv_iload_n hx hb dX1_code_222 rfl (lv_at hl 0 rfl) ?_
                                  refine va_iast hx hb hK hP hD hS 2 1 rfl rfl (show ¬ ((1 : Int32) < 0 ∨ 4 ≤ (1 : Int32).toNatClampNeg) from by decide) dX1_code_223 (fun H locs hP hD hS => ?_)
                                  obtain ⟨g78, eg78⟩ : ∃ y : Nat → Int32, y = upd g77 (1 : Int32).toNatClampNeg (116 : Int32) := ⟨_, rfl⟩
                                  have hP : va_P D vwCl (mkW cR cY m0 m1 m2 (ro, sz, op, kd, tk, la, li, g78, 2)) H := by rw [eg78]; exact hP
                                  have hD : va_D A (mkW cR cY m0 m1 m2 (ro, sz, op, kd, tk, la, li, g78, 2)) := kk_D_same hD rfl
                                  refine lv_iconst (v := 1) hx hb dX1_code_224 (by decide) ?_
                                  have hres : 1 = (mk_code (ro, sz, op, kd, tk, la, li, bt, mn) x1).1 := by
                                    subst eg78 eg77 eg67 et66 et60 eg59 et58 et57 et54 eg53 et52 et51
                                    first | rfl | (simp only [mk_code, mk_c3, mk_cm, mk_sb, mk_by1, mk_by2, mk_by3, mk_by4, mk_c4, mk_rem, if_neg c1, if_neg c2, if_pos c3, if_pos c4, if_pos c5, if_neg c6, if_pos c68, if_pos c69, if_neg (not_not_intro c70)]; done) | (simp [mk_code, mk_c3, mk_cm, mk_sb, mk_by1, mk_by2, mk_by3, mk_by4, mk_c4, mk_rem, if_neg c1, if_neg c2, if_pos c3, if_pos c4, if_pos c5, if_neg c6, if_pos c68, if_pos c69, if_neg (not_not_intro c70)]; done)
                                  have hre2 : (ro, sz, op, kd, tk, la, li, g78, 2) = (mk_code (ro, sz, op, kd, tk, la, li, bt, mn) x1).2 := by
                                    subst eg78 eg77 eg67 et66 et60 eg59 et58 et57 et54 eg53 et52 et51
                                    first | rfl | (simp only [mk_code, mk_c3, mk_cm, mk_sb, mk_by1, mk_by2, mk_by3, mk_by4, mk_c4, mk_rem, if_neg c1, if_neg c2, if_pos c3, if_pos c4, if_pos c5, if_neg c6, if_pos c68, if_pos c69, if_neg (not_not_intro c70)]; done) | (simp [mk_code, mk_c3, mk_cm, mk_sb, mk_by1, mk_by2, mk_by3, mk_by4, mk_c4, mk_rem, if_neg c1, if_neg c2, if_pos c3, if_pos c4, if_pos c5, if_neg c6, if_pos c68, if_pos c69, if_neg (not_not_intro c70)]; done)
                                  exact W.zret (v := 1) (ty := .boolean) hx hb hr rfl (fun t ht hW => ⟨⟨1, (ro, sz, op, kd, tk, la, li, g78, 2), rfl, ⟨hres, hre2⟩, by show va_P D vwCl _ t.heap; rw [ht]; exact hP⟩, hS.F ht⟩) hS.2.2 dX1_code_225
                            · refine lv_bipush (v := 110) hx hb dX1_code_171 (by decide) ?_
                              refine lv_goto (tgt := 199) hx hb dX1_code_173 (by decide) ?_
                              refine lv_istore_n (lv' := [(3, .int 110), (2, .int t60), (0, .ref m0), (1, .int x1)]) hx hb dX1_code_199 rfl hl (by decide) rfl (fun ls hl => ?_)
                              refine lv_iload_n hx hb dX1_code_200 rfl (lv_at hl 0 rfl) ?_
                              refine lv_if_le (tgt := 224) hx hb dX1_code_201 (by decide) (fun c79 => ?_) (fun c79 => ?_)
                              · exact absurd c79 (by decide)
                              · refine lv_aload_n hx hb dX1_code_204 rfl (lv_at hl 2 rfl) ?_
                                refine lv_iconst (v := 2) hx hb dX1_code_205 (by decide) ?_
                                refine va_put (D := D) (ci := 1) (v := .int 2) (ty := .int) (C := RX1) (T := TX1) (N := 9) hx hb hts hin tyX1 tyX1_ok nmX1 hown hK hP hD hS 0 rfl rfl 8 (by decide) lk33 (fun _ h9 => h9) rfl (by decide +kernel) rfl rfl (Nat.le_of_ble_eq_true rfl) dX1_code_206 (fun H locs hP hD hS => ?_)
                                have hP : va_P D vwCl (mkW cR cY m0 m1 m2 (ro, sz, op, kd, tk, la, li, g67, 2)) H := hP
                                have hD : va_D A (mkW cR cY m0 m1 m2 (ro, sz, op, kd, tk, la, li, g67, 2)) := hD
                                refine lv_aload_n hx hb dX1_code_209 rfl (lv_at hl 2 rfl) ?_
                                refine va_get (D := D) (ci := 1) (v := .ref m2) (C := RX1) (T := TX1) (N := 9) hx hb hts hin hown hK hP 0 rfl rfl 7 (by decide) lk20 (fun _ h9 => h9) rfl dX1_code_210 ?_
                                refine lv_iconst (v := 0) hx hb dX1_code_213 (by decide) ?_
                                refine lv_bipush (v := 92) hx hb dX1_code_214 (by decide) ?_
                                refine va_iast hx hb hK hP hD hS 2 1 rfl rfl (show ¬ ((0 : Int32) < 0 ∨ 4 ≤ (0 : Int32).toNatClampNeg) from by decide) dX1_code_216 (fun H locs hP hD hS => ?_)
                                obtain ⟨g80, eg80⟩ : ∃ y : Nat → Int32, y = upd g67 (0 : Int32).toNatClampNeg (92 : Int32) := ⟨_, rfl⟩
                                have hP : va_P D vwCl (mkW cR cY m0 m1 m2 (ro, sz, op, kd, tk, la, li, g80, 2)) H := by rw [eg80]; exact hP
                                have hD : va_D A (mkW cR cY m0 m1 m2 (ro, sz, op, kd, tk, la, li, g80, 2)) := kk_D_same hD rfl
                                refine lv_aload_n hx hb dX1_code_217 rfl (lv_at hl 2 rfl) ?_
                                refine va_get (D := D) (ci := 1) (v := .ref m2) (C := RX1) (T := TX1) (N := 9) hx hb hts hin hown hK hP 0 rfl rfl 7 (by decide) lk20 (fun _ h9 => h9) rfl dX1_code_218 ?_
                                refine lv_iconst (v := 1) hx hb dX1_code_221 (by decide) ?_
                                refine lv_iload_n hx hb dX1_code_222 rfl (lv_at hl 0 rfl) ?_
                                refine va_iast hx hb hK hP hD hS 2 1 rfl rfl (show ¬ ((1 : Int32) < 0 ∨ 4 ≤ (1 : Int32).toNatClampNeg) from by decide) dX1_code_223 (fun H locs hP hD hS => ?_)
                                obtain ⟨g81, eg81⟩ : ∃ y : Nat → Int32, y = upd g80 (1 : Int32).toNatClampNeg (110 : Int32) := ⟨_, rfl⟩
                                have hP : va_P D vwCl (mkW cR cY m0 m1 m2 (ro, sz, op, kd, tk, la, li, g81, 2)) H := by rw [eg81]; exact hP
                                have hD : va_D A (mkW cR cY m0 m1 m2 (ro, sz, op, kd, tk, la, li, g81, 2)) := kk_D_same hD rfl
                                refine lv_iconst (v := 1) hx hb dX1_code_224 (by decide) ?_
                                have hres : 1 = (mk_code (ro, sz, op, kd, tk, la, li, bt, mn) x1).1 := by
                                  subst eg81 eg80 eg67 et66 et60 eg59 et58 et57 et54 eg53 et52 et51
                                  first | rfl | (simp only [mk_code, mk_c3, mk_cm, mk_sb, mk_by1, mk_by2, mk_by3, mk_by4, mk_c4, mk_rem, if_neg c1, if_neg c2, if_pos c3, if_pos c4, if_pos c5, if_neg c6, if_pos c68, if_neg (not_not_intro c69)]; done) | (simp [mk_code, mk_c3, mk_cm, mk_sb, mk_by1, mk_by2, mk_by3, mk_by4, mk_c4, mk_rem, if_neg c1, if_neg c2, if_pos c3, if_pos c4, if_pos c5, if_neg c6, if_pos c68, if_neg (not_not_intro c69)]; done)
                                have hre2 : (ro, sz, op, kd, tk, la, li, g81, 2) = (mk_code (ro, sz, op, kd, tk, la, li, bt, mn) x1).2 := by
                                  subst eg81 eg80 eg67 et66 et60 eg59 et58 et57 et54 eg53 et52 et51
                                  first | rfl | (simp only [mk_code, mk_c3, mk_cm, mk_sb, mk_by1, mk_by2, mk_by3, mk_by4, mk_c4, mk_rem, if_neg c1, if_neg c2, if_pos c3, if_pos c4, if_pos c5, if_neg c6, if_pos c68, if_neg (not_not_intro c69)]; done) | (simp [mk_code, mk_c3, mk_cm, mk_sb, mk_by1, mk_by2, mk_by3, mk_by4, mk_c4, mk_rem, if_neg c1, if_neg c2, if_pos c3, if_pos c4, if_pos c5, if_neg c6, if_pos c68, if_neg (not_not_intro c69)]; done)
                                exact W.zret (v := 1) (ty := .boolean) hx hb hr rfl (fun t ht hW => ⟨⟨1, (ro, sz, op, kd, tk, la, li, g81, 2), rfl, ⟨hres, hre2⟩, by show va_P D vwCl _ t.heap; rw [ht]; exact hP⟩, hS.F ht⟩) hS.2.2 dX1_code_225
                          · refine lv_bipush (v := 92) hx hb dX1_code_160 (by decide) ?_
                            refine lv_goto (tgt := 199) hx hb dX1_code_162 (by decide) ?_
                            refine lv_istore_n (lv' := [(3, .int 92), (2, .int t60), (0, .ref m0), (1, .int x1)]) hx hb dX1_code_199 rfl hl (by decide) rfl (fun ls hl => ?_)
                            refine lv_iload_n hx hb dX1_code_200 rfl (lv_at hl 0 rfl) ?_
                            refine lv_if_le (tgt := 224) hx hb dX1_code_201 (by decide) (fun c82 => ?_) (fun c82 => ?_)
                            · exact absurd c82 (by decide)
                            · refine lv_aload_n hx hb dX1_code_204 rfl (lv_at hl 2 rfl) ?_
                              refine lv_iconst (v := 2) hx hb dX1_code_205 (by decide) ?_
                              refine va_put (D := D) (ci := 1) (v := .int 2) (ty := .int) (C := RX1) (T := TX1) (N := 9) hx hb hts hin tyX1 tyX1_ok nmX1 hown hK hP hD hS 0 rfl rfl 8 (by decide) lk33 (fun _ h9 => h9) rfl (by decide +kernel) rfl rfl (Nat.le_of_ble_eq_true rfl) dX1_code_206 (fun H locs hP hD hS => ?_)
                              have hP : va_P D vwCl (mkW cR cY m0 m1 m2 (ro, sz, op, kd, tk, la, li, g67, 2)) H := hP
                              have hD : va_D A (mkW cR cY m0 m1 m2 (ro, sz, op, kd, tk, la, li, g67, 2)) := hD
                              refine lv_aload_n hx hb dX1_code_209 rfl (lv_at hl 2 rfl) ?_
                              refine va_get (D := D) (ci := 1) (v := .ref m2) (C := RX1) (T := TX1) (N := 9) hx hb hts hin hown hK hP 0 rfl rfl 7 (by decide) lk20 (fun _ h9 => h9) rfl dX1_code_210 ?_
                              refine lv_iconst (v := 0) hx hb dX1_code_213 (by decide) ?_
                              refine lv_bipush (v := 92) hx hb dX1_code_214 (by decide) ?_
                              refine va_iast hx hb hK hP hD hS 2 1 rfl rfl (show ¬ ((0 : Int32) < 0 ∨ 4 ≤ (0 : Int32).toNatClampNeg) from by decide) dX1_code_216 (fun H locs hP hD hS => ?_)
                              obtain ⟨g83, eg83⟩ : ∃ y : Nat → Int32, y = upd g67 (0 : Int32).toNatClampNeg (92 : Int32) := ⟨_, rfl⟩
                              have hP : va_P D vwCl (mkW cR cY m0 m1 m2 (ro, sz, op, kd, tk, la, li, g83, 2)) H := by rw [eg83]; exact hP
                              have hD : va_D A (mkW cR cY m0 m1 m2 (ro, sz, op, kd, tk, la, li, g83, 2)) := kk_D_same hD rfl
                              refine lv_aload_n hx hb dX1_code_217 rfl (lv_at hl 2 rfl) ?_
                              refine va_get (D := D) (ci := 1) (v := .ref m2) (C := RX1) (T := TX1) (N := 9) hx hb hts hin hown hK hP 0 rfl rfl 7 (by decide) lk20 (fun _ h9 => h9) rfl dX1_code_218 ?_
                              refine lv_iconst (v := 1) hx hb dX1_code_221 (by decide) ?_
                              refine lv_iload_n hx hb dX1_code_222 rfl (lv_at hl 0 rfl) ?_
                              refine va_iast hx hb hK hP hD hS 2 1 rfl rfl (show ¬ ((1 : Int32) < 0 ∨ 4 ≤ (1 : Int32).toNatClampNeg) from by decide) dX1_code_223 (fun H locs hP hD hS => ?_)
                              obtain ⟨g84, eg84⟩ : ∃ y : Nat → Int32, y = upd g83 (1 : Int32).toNatClampNeg (92 : Int32) := ⟨_, rfl⟩
                              have hP : va_P D vwCl (mkW cR cY m0 m1 m2 (ro, sz, op, kd, tk, la, li, g84, 2)) H := by rw [eg84]; exact hP
                              have hD : va_D A (mkW cR cY m0 m1 m2 (ro, sz, op, kd, tk, la, li, g84, 2)) := kk_D_same hD rfl
                              refine lv_iconst (v := 1) hx hb dX1_code_224 (by decide) ?_
                              have hres : 1 = (mk_code (ro, sz, op, kd, tk, la, li, bt, mn) x1).1 := by
                                subst eg84 eg83 eg67 et66 et60 eg59 et58 et57 et54 eg53 et52 et51
                                first | rfl | (simp only [mk_code, mk_c3, mk_cm, mk_sb, mk_by1, mk_by2, mk_by3, mk_by4, mk_c4, mk_rem, if_neg c1, if_neg c2, if_pos c3, if_pos c4, if_pos c5, if_neg c6, if_neg (not_not_intro c68)]; done) | (simp [mk_code, mk_c3, mk_cm, mk_sb, mk_by1, mk_by2, mk_by3, mk_by4, mk_c4, mk_rem, if_neg c1, if_neg c2, if_pos c3, if_pos c4, if_pos c5, if_neg c6, if_neg (not_not_intro c68)]; done)
                              have hre2 : (ro, sz, op, kd, tk, la, li, g84, 2) = (mk_code (ro, sz, op, kd, tk, la, li, bt, mn) x1).2 := by
                                subst eg84 eg83 eg67 et66 et60 eg59 et58 et57 et54 eg53 et52 et51
                                first | rfl | (simp only [mk_code, mk_c3, mk_cm, mk_sb, mk_by1, mk_by2, mk_by3, mk_by4, mk_c4, mk_rem, if_neg c1, if_neg c2, if_pos c3, if_pos c4, if_pos c5, if_neg c6, if_neg (not_not_intro c68)]; done) | (simp [mk_code, mk_c3, mk_cm, mk_sb, mk_by1, mk_by2, mk_by3, mk_by4, mk_c4, mk_rem, if_neg c1, if_neg c2, if_pos c3, if_pos c4, if_pos c5, if_neg c6, if_neg (not_not_intro c68)]; done)
                              exact W.zret (v := 1) (ty := .boolean) hx hb hr rfl (fun t ht hW => ⟨⟨1, (ro, sz, op, kd, tk, la, li, g84, 2), rfl, ⟨hres, hre2⟩, by show va_P D vwCl _ t.heap; rw [ht]; exact hP⟩, hS.F ht⟩) hS.2.2 dX1_code_225
                      · exact absurd c64 (by decide)
                    · exact absurd c63 (by decide)
                  · exact absurd c62 (by decide)
          · refine lv_iconst (v := 2) hx hb dX1_code_43 (by decide) ?_
            refine lv_goto (tgt := 58) hx hb dX1_code_44 (by decide) ?_
            refine va_put (D := D) (ci := 1) (v := .int 2) (ty := .int) (C := RX1) (T := TX1) (N := 9) hx hb hts hin tyX1 tyX1_ok nmX1 hown hK hP hD hS 0 rfl rfl 8 (by decide) lk33 (fun _ h9 => h9) rfl (by decide +kernel) rfl rfl (Nat.le_of_ble_eq_true rfl) dX1_code_58 (fun H locs hP hD hS => ?_)
            have hP : va_P D vwCl (mkW cR cY m0 m1 m2 (ro, sz, op, kd, tk, la, li, bt, 2)) H := hP
            have hD : va_D A (mkW cR cY m0 m1 m2 (ro, sz, op, kd, tk, la, li, bt, 2)) := hD
            refine lv_iload_n hx hb dX1_code_61 rfl (lv_at hl 1 rfl) ?_
            refine lv_istore_n (lv' := [(2, .int x1), (0, .ref m0), (1, .int x1)]) hx hb dX1_code_62 rfl hl (by decide) rfl (fun ls hl => ?_)
            refine lv_aload_n hx hb dX1_code_63 rfl (lv_at hl 1 rfl) ?_
            refine va_get (D := D) (ci := 1) (v := .int 2) (C := RX1) (T := TX1) (N := 9) hx hb hts hin hown hK hP 0 rfl rfl 8 (by decide) lk33 (fun _ h9 => h9) rfl dX1_code_64 ?_
            refine lv_iconst (v := 1) hx hb dX1_code_67 (by decide) ?_
            refine lv_isub hx hb dX1_code_68 ?_
            refine lv_topi (fun t85 et85 => ?_)
            obtain rfl : t85 = 1 := by rw [et85]; decide
            refine lv_istore_n (lv' := [(3, .int 1), (2, .int x1), (0, .ref m0), (1, .int x1)]) hx hb dX1_code_69 rfl hl (by decide) rfl (fun ls hl => ?_)
            refine lv_iload_n hx hb dX1_code_70 rfl (lv_at hl 0 rfl) ?_
            refine lv_if_le (tgt := 99) hx hb dX1_code_71 (by decide) (fun c86 => ?_) (fun c86 => ?_)
            · exact absurd c86 (by decide)
            · refine lv_aload_n hx hb dX1_code_74 rfl (lv_at hl 2 rfl) ?_
              refine va_get (D := D) (ci := 1) (v := .ref m2) (C := RX1) (T := TX1) (N := 9) hx hb hts hin hown hK hP 0 rfl rfl 7 (by decide) lk20 (fun _ h9 => h9) rfl dX1_code_75 ?_
              refine lv_iload_n hx hb dX1_code_78 rfl (lv_at hl 0 rfl) ?_
              refine lv_sipush (v := 128) hx hb dX1_code_79 (by decide) ?_
              refine lv_iload_n hx hb dX1_code_82 rfl (lv_at hl 1 rfl) ?_
              refine lv_bipush (v := 64) hx hb dX1_code_83 (by decide) ?_
              refine lv_irem hx hb dX1_code_85 (by decide) ?_
              refine lv_topi (fun t87 et87 => ?_)
              refine lv_iadd hx hb dX1_code_86 ?_
              refine lv_topi (fun t88 et88 => ?_)
              refine va_iast hx hb hK hP hD hS 2 1 rfl rfl (show ¬ ((1 : Int32) < 0 ∨ 4 ≤ (1 : Int32).toNatClampNeg) from by decide) dX1_code_87 (fun H locs hP hD hS => ?_)
              obtain ⟨g89, eg89⟩ : ∃ y : Nat → Int32, y = upd bt (1 : Int32).toNatClampNeg t88 := ⟨_, rfl⟩
              have hP : va_P D vwCl (mkW cR cY m0 m1 m2 (ro, sz, op, kd, tk, la, li, g89, 2)) H := by rw [eg89]; exact hP
              have hD : va_D A (mkW cR cY m0 m1 m2 (ro, sz, op, kd, tk, la, li, g89, 2)) := kk_D_same hD rfl
              refine lv_iload_n hx hb dX1_code_88 rfl (lv_at hl 1 rfl) ?_
              refine lv_bipush (v := 64) hx hb dX1_code_89 (by decide) ?_
              refine lv_idiv hx hb dX1_code_91 (by decide) ?_
              refine lv_topi (fun t90 et90 => ?_)
              refine lv_istore_n (lv' := [(2, .int t90), (3, .int 1), (0, .ref m0), (1, .int x1)]) hx hb dX1_code_92 rfl hl (by decide) rfl (fun ls hl => ?_)
              refine lv_iinc (v := 0) (lv' := [(3, .int 0), (2, .int t90), (0, .ref m0), (1, .int x1)]) hx hb dX1_code_93 hl (k := 1) rfl (by decide) (by decide) rfl (fun ls hl => ?_)
              refine lv_goto (tgt := 70) hx hb dX1_code_96 (by decide) ?_
              refine lv_iload_n hx hb dX1_code_70 rfl (lv_at hl 0 rfl) ?_
              refine lv_if_le (tgt := 99) hx hb dX1_code_71 (by decide) (fun c92 => ?_) (fun c92 => ?_)
              · refine lv_aload_n hx hb dX1_code_99 rfl (lv_at hl 2 rfl) ?_
                refine va_get (D := D) (ci := 1) (v := .ref m2) (C := RX1) (T := TX1) (N := 9) hx hb hts hin hown hK hP 0 rfl rfl 7 (by decide) lk20 (fun _ h9 => h9) rfl dX1_code_100 ?_
                refine lv_iconst (v := 0) hx hb dX1_code_103 (by decide) ?_
                refine lv_aload_n hx hb dX1_code_104 rfl (lv_at hl 2 rfl) ?_
                refine va_get (D := D) (ci := 1) (v := .int 2) (C := RX1) (T := TX1) (N := 9) hx hb hts hin hown hK hP 0 rfl rfl 8 (by decide) lk33 (fun _ h9 => h9) rfl dX1_code_105 ?_
                refine lv_iconst (v := 1) hx hb dX1_code_108 (by decide) ?_
                refine lv_icmp_ne (tgt := 116) hx hb dX1_code_109 (by decide) (fun c93 => ?_) (fun c93 => ?_)
                · refine lv_aload_n hx hb dX1_code_116 rfl (lv_at hl 2 rfl) ?_
                  refine va_get (D := D) (ci := 1) (v := .int 2) (C := RX1) (T := TX1) (N := 9) hx hb hts hin hown hK hP 0 rfl rfl 8 (by decide) lk33 (fun _ h9 => h9) rfl dX1_code_117 ?_
                  refine lv_iconst (v := 2) hx hb dX1_code_120 (by decide) ?_
                  refine lv_icmp_ne (tgt := 132) hx hb dX1_code_121 (by decide) (fun c94 => ?_) (fun c94 => ?_)
                  · exact absurd c94 (by decide)
                  · refine lv_sipush (v := 192) hx hb dX1_code_124 (by decide) ?_
                    refine lv_iload_n hx hb dX1_code_127 rfl (lv_at hl 1 rfl) ?_
                    refine lv_iadd hx hb dX1_code_128 ?_
                    refine lv_topi (fun t95 et95 => ?_)
                    refine lv_goto (tgt := 153) hx hb dX1_code_129 (by decide) ?_
                    refine va_iast hx hb hK hP hD hS 2 1 rfl rfl (show ¬ ((0 : Int32) < 0 ∨ 4 ≤ (0 : Int32).toNatClampNeg) from by decide) dX1_code_153 (fun H locs hP hD hS => ?_)
                    obtain ⟨g96, eg96⟩ : ∃ y : Nat → Int32, y = upd g89 (0 : Int32).toNatClampNeg t95 := ⟨_, rfl⟩
                    have hP : va_P D vwCl (mkW cR cY m0 m1 m2 (ro, sz, op, kd, tk, la, li, g96, 2)) H := by rw [eg96]; exact hP
                    have hD : va_D A (mkW cR cY m0 m1 m2 (ro, sz, op, kd, tk, la, li, g96, 2)) := kk_D_same hD rfl
                    refine lv_iload_n hx hb dX1_code_154 rfl (lv_at hl 3 rfl) ?_
                    refine lv_bipush (v := 92) hx hb dX1_code_155 (by decide) ?_
                    refine lv_icmp_ne (tgt := 165) hx hb dX1_code_157 (by decide) (fun c97 => ?_) (fun c97 => ?_)
                    · refine lv_iload_n hx hb dX1_code_165 rfl (lv_at hl 3 rfl) ?_
                      refine lv_bipush (v := 10) hx hb dX1_code_166 (by decide) ?_
                      refine lv_icmp_ne (tgt := 176) hx hb dX1_code_168 (by decide) (fun c98 => ?_) (fun c98 => ?_)
                      · refine lv_iload_n hx hb dX1_code_176 rfl (lv_at hl 3 rfl) ?_
                        refine lv_bipush (v := 9) hx hb dX1_code_177 (by decide) ?_
                        refine lv_icmp_ne (tgt := 187) hx hb dX1_code_179 (by decide) (fun c99 => ?_) (fun c99 => ?_)
                        · refine lv_iload_n hx hb dX1_code_187 rfl (lv_at hl 3 rfl) ?_
                          refine lv_bipush (v := 13) hx hb dX1_code_188 (by decide) ?_
                          refine lv_icmp_ne (tgt := 198) hx hb dX1_code_190 (by decide) (fun c100 => ?_) (fun c100 => ?_)
                          · refine lv_iconst (v := 0) hx hb dX1_code_198 (by decide) ?_
                            refine lv_istore_n (lv' := [(3, .int 0), (2, .int t90), (0, .ref m0), (1, .int x1)]) hx hb dX1_code_199 rfl hl (by decide) rfl (fun ls hl => ?_)
                            refine lv_iload_n hx hb dX1_code_200 rfl (lv_at hl 0 rfl) ?_
                            refine lv_if_le (tgt := 224) hx hb dX1_code_201 (by decide) (fun c101 => ?_) (fun c101 => ?_)
                            · refine lv_iconst (v := 1) hx hb dX1_code_224 (by decide) ?_
                              have hres : 1 = (mk_code (ro, sz, op, kd, tk, la, li, bt, mn) x1).1 := by
                                subst eg96 et95 et90 eg89 et88 et87
                                first | rfl | (simp only [mk_code, mk_c3, mk_cm, mk_sb, mk_by1, mk_by2, mk_by3, mk_by4, mk_c4, mk_rem, if_neg c1, if_neg c2, if_pos c3, if_pos c4, if_neg c5, if_pos c97, if_pos c98, if_pos c99, if_pos c100]; done) | (simp [mk_code, mk_c3, mk_cm, mk_sb, mk_by1, mk_by2, mk_by3, mk_by4, mk_c4, mk_rem, if_neg c1, if_neg c2, if_pos c3, if_pos c4, if_neg c5, if_pos c97, if_pos c98, if_pos c99, if_pos c100]; done)
                              have hre2 : (ro, sz, op, kd, tk, la, li, g96, 2) = (mk_code (ro, sz, op, kd, tk, la, li, bt, mn) x1).2 := by
                                subst eg96 et95 et90 eg89 et88 et87
                                first | rfl | (simp only [mk_code, mk_c3, mk_cm, mk_sb, mk_by1, mk_by2, mk_by3, mk_by4, mk_c4, mk_rem, if_neg c1, if_neg c2, if_pos c3, if_pos c4, if_neg c5, if_pos c97, if_pos c98, if_pos c99, if_pos c100]; done) | (simp [mk_code, mk_c3, mk_cm, mk_sb, mk_by1, mk_by2, mk_by3, mk_by4, mk_c4, mk_rem, if_neg c1, if_neg c2, if_pos c3, if_pos c4, if_neg c5, if_pos c97, if_pos c98, if_pos c99, if_pos c100]; done)
                              exact W.zret (v := 1) (ty := .boolean) hx hb hr rfl (fun t ht hW => ⟨⟨1, (ro, sz, op, kd, tk, la, li, g96, 2), rfl, ⟨hres, hre2⟩, by show va_P D vwCl _ t.heap; rw [ht]; exact hP⟩, hS.F ht⟩) hS.2.2 dX1_code_225
                            · exact absurd c101 (by decide)
                          · refine lv_bipush (v := 114) hx hb dX1_code_193 (by decide) ?_
                            refine lv_goto (tgt := 199) hx hb dX1_code_195 (by decide) ?_
                            refine lv_istore_n (lv' := [(3, .int 114), (2, .int t90), (0, .ref m0), (1, .int x1)]) hx hb dX1_code_199 rfl hl (by decide) rfl (fun ls hl => ?_)
                            refine lv_iload_n hx hb dX1_code_200 rfl (lv_at hl 0 rfl) ?_
                            refine lv_if_le (tgt := 224) hx hb dX1_code_201 (by decide) (fun c102 => ?_) (fun c102 => ?_)
                            · exact absurd c102 (by decide)
                            · refine lv_aload_n hx hb dX1_code_204 rfl (lv_at hl 2 rfl) ?_
                              refine lv_iconst (v := 2) hx hb dX1_code_205 (by decide) ?_
                              refine va_put (D := D) (ci := 1) (v := .int 2) (ty := .int) (C := RX1) (T := TX1) (N := 9) hx hb hts hin tyX1 tyX1_ok nmX1 hown hK hP hD hS 0 rfl rfl 8 (by decide) lk33 (fun _ h9 => h9) rfl (by decide +kernel) rfl rfl (Nat.le_of_ble_eq_true rfl) dX1_code_206 (fun H locs hP hD hS => ?_)
                              have hP : va_P D vwCl (mkW cR cY m0 m1 m2 (ro, sz, op, kd, tk, la, li, g96, 2)) H := hP
                              have hD : va_D A (mkW cR cY m0 m1 m2 (ro, sz, op, kd, tk, la, li, g96, 2)) := hD
                              refine lv_aload_n hx hb dX1_code_209 rfl (lv_at hl 2 rfl) ?_
                              refine va_get (D := D) (ci := 1) (v := .ref m2) (C := RX1) (T := TX1) (N := 9) hx hb hts hin hown hK hP 0 rfl rfl 7 (by decide) lk20 (fun _ h9 => h9) rfl dX1_code_210 ?_
                              refine lv_iconst (v := 0) hx hb dX1_code_213 (by decide) ?_
                              refine lv_bipush (v := 92) hx hb dX1_code_214 (by decide) ?_
                              refine va_iast hx hb hK hP hD hS 2 1 rfl rfl (show ¬ ((0 : Int32) < 0 ∨ 4 ≤ (0 : Int32).toNatClampNeg) from by decide) dX1_code_216 (fun H locs hP hD hS => ?_)
                              obtain ⟨g103, eg103⟩ : ∃ y : Nat → Int32, y = upd g96 (0 : Int32).toNatClampNeg (92 : Int32) := ⟨_, rfl⟩
                              have hP : va_P D vwCl (mkW cR cY m0 m1 m2 (ro, sz, op, kd, tk, la, li, g103, 2)) H := by rw [eg103]; exact hP
                              have hD : va_D A (mkW cR cY m0 m1 m2 (ro, sz, op, kd, tk, la, li, g103, 2)) := kk_D_same hD rfl
                              refine lv_aload_n hx hb dX1_code_217 rfl (lv_at hl 2 rfl) ?_
                              refine va_get (D := D) (ci := 1) (v := .ref m2) (C := RX1) (T := TX1) (N := 9) hx hb hts hin hown hK hP 0 rfl rfl 7 (by decide) lk20 (fun _ h9 => h9) rfl dX1_code_218 ?_
                              refine lv_iconst (v := 1) hx hb dX1_code_221 (by decide) ?_
                              refine lv_iload_n hx hb dX1_code_222 rfl (lv_at hl 0 rfl) ?_
                              refine va_iast hx hb hK hP hD hS 2 1 rfl rfl (show ¬ ((1 : Int32) < 0 ∨ 4 ≤ (1 : Int32).toNatClampNeg) from by decide) dX1_code_223 (fun H locs hP hD hS => ?_)
                              obtain ⟨g104, eg104⟩ : ∃ y : Nat → Int32, y = upd g103 (1 : Int32).toNatClampNeg (114 : Int32) := ⟨_, rfl⟩
                              have hP : va_P D vwCl (mkW cR cY m0 m1 m2 (ro, sz, op, kd, tk, la, li, g104, 2)) H := by rw [eg104]; exact hP
                              have hD : va_D A (mkW cR cY m0 m1 m2 (ro, sz, op, kd, tk, la, li, g104, 2)) := kk_D_same hD rfl
                              refine lv_iconst (v := 1) hx hb dX1_code_224 (by decide) ?_
                              have hres : 1 = (mk_code (ro, sz, op, kd, tk, la, li, bt, mn) x1).1 := by
                                subst eg104 eg103 eg96 et95 et90 eg89 et88 et87
                                first | rfl | (simp only [mk_code, mk_c3, mk_cm, mk_sb, mk_by1, mk_by2, mk_by3, mk_by4, mk_c4, mk_rem, if_neg c1, if_neg c2, if_pos c3, if_pos c4, if_neg c5, if_pos c97, if_pos c98, if_pos c99, if_neg (not_not_intro c100)]; done) | (simp [mk_code, mk_c3, mk_cm, mk_sb, mk_by1, mk_by2, mk_by3, mk_by4, mk_c4, mk_rem, if_neg c1, if_neg c2, if_pos c3, if_pos c4, if_neg c5, if_pos c97, if_pos c98, if_pos c99, if_neg (not_not_intro c100)]; done)
                              have hre2 : (ro, sz, op, kd, tk, la, li, g104, 2) = (mk_code (ro, sz, op, kd, tk, la, li, bt, mn) x1).2 := by
                                subst eg104 eg103 eg96 et95 et90 eg89 et88 et87
                                first | rfl | (simp only [mk_code, mk_c3, mk_cm, mk_sb, mk_by1, mk_by2, mk_by3, mk_by4, mk_c4, mk_rem, if_neg c1, if_neg c2, if_pos c3, if_pos c4, if_neg c5, if_pos c97, if_pos c98, if_pos c99, if_neg (not_not_intro c100)]; done) | (simp [mk_code, mk_c3, mk_cm, mk_sb, mk_by1, mk_by2, mk_by3, mk_by4, mk_c4, mk_rem, if_neg c1, if_neg c2, if_pos c3, if_pos c4, if_neg c5, if_pos c97, if_pos c98, if_pos c99, if_neg (not_not_intro c100)]; done)
                              exact W.zret (v := 1) (ty := .boolean) hx hb hr rfl (fun t ht hW => ⟨⟨1, (ro, sz, op, kd, tk, la, li, g104, 2), rfl, ⟨hres, hre2⟩, by show va_P D vwCl _ t.heap; rw [ht]; exact hP⟩, hS.F ht⟩) hS.2.2 dX1_code_225
                        · refine lv_bipush (v := 116) hx hb dX1_code_182 (by decide) ?_
                          refine lv_goto (tgt := 199) hx hb dX1_code_184 (by decide) ?_
                          refine lv_istore_n (lv' := [(3, .int 116), (2, .int t90), (0, .ref m0), (1, .int x1)]) hx hb dX1_code_199 rfl hl (by decide) rfl (fun ls hl => ?_)
                          refine lv_iload_n hx hb dX1_code_200 rfl (lv_at hl 0 rfl) ?_
                          refine lv_if_le (tgt := 224) hx hb dX1_code_201 (by decide) (fun c105 => ?_) (fun c105 => ?_)
                          · exact absurd c105 (by decide)
                          · refine lv_aload_n hx hb dX1_code_204 rfl (lv_at hl 2 rfl) ?_
                            refine lv_iconst (v := 2) hx hb dX1_code_205 (by decide) ?_
                            refine va_put (D := D) (ci := 1) (v := .int 2) (ty := .int) (C := RX1) (T := TX1) (N := 9) hx hb hts hin tyX1 tyX1_ok nmX1 hown hK hP hD hS 0 rfl rfl 8 (by decide) lk33 (fun _ h9 => h9) rfl (by decide +kernel) rfl rfl (Nat.le_of_ble_eq_true rfl) dX1_code_206 (fun H locs hP hD hS => ?_)
                            have hP : va_P D vwCl (mkW cR cY m0 m1 m2 (ro, sz, op, kd, tk, la, li, g96, 2)) H := hP
                            have hD : va_D A (mkW cR cY m0 m1 m2 (ro, sz, op, kd, tk, la, li, g96, 2)) := hD
                            refine lv_aload_n hx hb dX1_code_209 rfl (lv_at hl 2 rfl) ?_
                            refine va_get (D := D) (ci := 1) (v := .ref m2) (C := RX1) (T := TX1) (N := 9) hx hb hts hin hown hK hP 0 rfl rfl 7 (by decide) lk20 (fun _ h9 => h9) rfl dX1_code_210 ?_
                            refine lv_iconst (v := 0) hx hb dX1_code_213 (by decide) ?_
                            refine lv_bipush (v := 92) hx hb dX1_code_214 (by decide) ?_
                            refine va_iast hx hb hK hP hD hS 2 1 rfl rfl (show ¬ ((0 : Int32) < 0 ∨ 4 ≤ (0 : Int32).toNatClampNeg) from by decide) dX1_code_216 (fun H locs hP hD hS => ?_)
                            obtain ⟨g106, eg106⟩ : ∃ y : Nat → Int32, y = upd g96 (0 : Int32).toNatClampNeg (92 : Int32) := ⟨_, rfl⟩
                            have hP : va_P D vwCl (mkW cR cY m0 m1 m2 (ro, sz, op, kd, tk, la, li, g106, 2)) H := by rw [eg106]; exact hP
                            have hD : va_D A (mkW cR cY m0 m1 m2 (ro, sz, op, kd, tk, la, li, g106, 2)) := kk_D_same hD rfl
                            refine lv_aload_n hx hb dX1_code_217 rfl (lv_at hl 2 rfl) ?_
                            refine va_get (D := D) (ci := 1) (v := .ref m2) (C := RX1) (T := TX1) (N := 9) hx hb hts hin hown hK hP 0 rfl rfl 7 (by decide) lk20 (fun _ h9 => h9) rfl dX1_code_218 ?_
                            refine lv_iconst (v := 1) hx hb dX1_code_221 (by decide) ?_
                            refine lv_iload_n hx hb dX1_code_222 rfl (lv_at hl 0 rfl) ?_
                            refine va_iast hx hb hK hP hD hS 2 1 rfl rfl (show ¬ ((1 : Int32) < 0 ∨ 4 ≤ (1 : Int32).toNatClampNeg) from by decide) dX1_code_223 (fun H locs hP hD hS => ?_)
                            obtain ⟨g107, eg107⟩ : ∃ y : Nat → Int32, y = upd g106 (1 : Int32).toNatClampNeg (116 : Int32) := ⟨_, rfl⟩
                            have hP : va_P D vwCl (mkW cR cY m0 m1 m2 (ro, sz, op, kd, tk, la, li, g107, 2)) H := by rw [eg107]; exact hP
                            have hD : va_D A (mkW cR cY m0 m1 m2 (ro, sz, op, kd, tk, la, li, g107, 2)) := kk_D_same hD rfl
                            refine lv_iconst (v := 1) hx hb dX1_code_224 (by decide) ?_
                            have hres : 1 = (mk_code (ro, sz, op, kd, tk, la, li, bt, mn) x1).1 := by
                              subst eg107 eg106 eg96 et95 et90 eg89 et88 et87
                              first | rfl | (simp only [mk_code, mk_c3, mk_cm, mk_sb, mk_by1, mk_by2, mk_by3, mk_by4, mk_c4, mk_rem, if_neg c1, if_neg c2, if_pos c3, if_pos c4, if_neg c5, if_pos c97, if_pos c98, if_neg (not_not_intro c99)]; done) | (simp [mk_code, mk_c3, mk_cm, mk_sb, mk_by1, mk_by2, mk_by3, mk_by4, mk_c4, mk_rem, if_neg c1, if_neg c2, if_pos c3, if_pos c4, if_neg c5, if_pos c97, if_pos c98, if_neg (not_not_intro c99)]; done)
                            have hre2 : (ro, sz, op, kd, tk, la, li, g107, 2) = (mk_code (ro, sz, op, kd, tk, la, li, bt, mn) x1).2 := by
                              subst eg107 eg106 eg96 et95 et90 eg89 et88 et87
                              first | rfl | (simp only [mk_code, mk_c3, mk_cm, mk_sb, mk_by1, mk_by2, mk_by3, mk_by4, mk_c4, mk_rem, if_neg c1, if_neg c2, if_pos c3, if_pos c4, if_neg c5, if_pos c97, if_pos c98, if_neg (not_not_intro c99)]; done) | (simp [mk_code, mk_c3, mk_cm, mk_sb, mk_by1, mk_by2, mk_by3, mk_by4, mk_c4, mk_rem, if_neg c1, if_neg c2, if_pos c3, if_pos c4, if_neg c5, if_pos c97, if_pos c98, if_neg (not_not_intro c99)]; done)
                            exact W.zret (v := 1) (ty := .boolean) hx hb hr rfl (fun t ht hW => ⟨⟨1, (ro, sz, op, kd, tk, la, li, g107, 2), rfl, ⟨hres, hre2⟩, by show va_P D vwCl _ t.heap; rw [ht]; exact hP⟩, hS.F ht⟩) hS.2.2 dX1_code_225
                      · refine lv_bipush (v := 110) hx hb dX1_code_171 (by decide) ?_
                        refine lv_goto (tgt := 199) hx hb dX1_code_173 (by decide) ?_
                        refine lv_istore_n (lv' := [(3, .int 110), (2, .int t90), (0, .ref m0), (1, .int x1)]) hx hb dX1_code_199 rfl hl (by decide) rfl (fun ls hl => ?_)
                        refine lv_iload_n hx hb dX1_code_200 rfl (lv_at hl 0 rfl) ?_
                        refine lv_if_le (tgt := 224) hx hb dX1_code_201 (by decide) (fun c108 => ?_) (fun c108 => ?_)
                        · exact absurd c108 (by decide)
                        · refine lv_aload_n hx hb dX1_code_204 rfl (lv_at hl 2 rfl) ?_
                          refine lv_iconst (v := 2) hx hb dX1_code_205 (by decide) ?_
                          refine va_put (D := D) (ci := 1) (v := .int 2) (ty := .int) (C := RX1) (T := TX1) (N := 9) hx hb hts hin tyX1 tyX1_ok nmX1 hown hK hP hD hS 0 rfl rfl 8 (by decide) lk33 (fun _ h9 => h9) rfl (by decide +kernel) rfl rfl (Nat.le_of_ble_eq_true rfl) dX1_code_206 (fun H locs hP hD hS => ?_)
                          have hP : va_P D vwCl (mkW cR cY m0 m1 m2 (ro, sz, op, kd, tk, la, li, g96, 2)) H := hP
                          have hD : va_D A (mkW cR cY m0 m1 m2 (ro, sz, op, kd, tk, la, li, g96, 2)) := hD
                          refine lv_aload_n hx hb dX1_code_209 rfl (lv_at hl 2 rfl) ?_
                          refine va_get (D := D) (ci := 1) (v := .ref m2) (C := RX1) (T := TX1) (N := 9) hx hb hts hin hown hK hP 0 rfl rfl 7 (by decide) lk20 (fun _ h9 => h9) rfl dX1_code_210 ?_
                          refine lv_iconst (v := 0) hx hb dX1_code_213 (by decide) ?_
                          refine lv_bipush (v := 92) hx hb dX1_code_214 (by decide) ?_
                          refine va_iast hx hb hK hP hD hS 2 1 rfl rfl (show ¬ ((0 : Int32) < 0 ∨ 4 ≤ (0 : Int32).toNatClampNeg) from by decide) dX1_code_216 (fun H locs hP hD hS => ?_)
                          obtain ⟨g109, eg109⟩ : ∃ y : Nat → Int32, y = upd g96 (0 : Int32).toNatClampNeg (92 : Int32) := ⟨_, rfl⟩
                          have hP : va_P D vwCl (mkW cR cY m0 m1 m2 (ro, sz, op, kd, tk, la, li, g109, 2)) H := by rw [eg109]; exact hP
                          have hD : va_D A (mkW cR cY m0 m1 m2 (ro, sz, op, kd, tk, la, li, g109, 2)) := kk_D_same hD rfl
                          refine lv_aload_n hx hb dX1_code_217 rfl (lv_at hl 2 rfl) ?_
                          refine va_get (D := D) (ci := 1) (v := .ref m2) (C := RX1) (T := TX1) (N := 9) hx hb hts hin hown hK hP 0 rfl rfl 7 (by decide) lk20 (fun _ h9 => h9) rfl dX1_code_218 ?_
                          refine lv_iconst (v := 1) hx hb dX1_code_221 (by decide) ?_
                          refine lv_iload_n hx hb dX1_code_222 rfl (lv_at hl 0 rfl) ?_
                          refine va_iast hx hb hK hP hD hS 2 1 rfl rfl (show ¬ ((1 : Int32) < 0 ∨ 4 ≤ (1 : Int32).toNatClampNeg) from by decide) dX1_code_223 (fun H locs hP hD hS => ?_)
                          obtain ⟨g110, eg110⟩ : ∃ y : Nat → Int32, y = upd g109 (1 : Int32).toNatClampNeg (110 : Int32) := ⟨_, rfl⟩
                          have hP : va_P D vwCl (mkW cR cY m0 m1 m2 (ro, sz, op, kd, tk, la, li, g110, 2)) H := by rw [eg110]; exact hP
                          have hD : va_D A (mkW cR cY m0 m1 m2 (ro, sz, op, kd, tk, la, li, g110, 2)) := kk_D_same hD rfl
                          refine lv_iconst (v := 1) hx hb dX1_code_224 (by decide) ?_
                          have hres : 1 = (mk_code (ro, sz, op, kd, tk, la, li, bt, mn) x1).1 := by
                            subst eg110 eg109 eg96 et95 et90 eg89 et88 et87
                            first | rfl | (simp only [mk_code, mk_c3, mk_cm, mk_sb, mk_by1, mk_by2, mk_by3, mk_by4, mk_c4, mk_rem, if_neg c1, if_neg c2, if_pos c3, if_pos c4, if_neg c5, if_pos c97, if_neg (not_not_intro c98)]; done) | (simp [mk_code, mk_c3, mk_cm, mk_sb, mk_by1, mk_by2, mk_by3, mk_by4, mk_c4, mk_rem, if_neg c1, if_neg c2, if_pos c3, if_pos c4, if_neg c5, if_pos c97, if_neg (not_not_intro c98)]; done)
                          have hre2 : (ro, sz, op, kd, tk, la, li, g110, 2) = (mk_code (ro, sz, op, kd, tk, la, li, bt, mn) x1).2 := by
                            subst eg110 eg109 eg96 et95 et90 eg89 et88 et87
                            first | rfl | (simp only [mk_code, mk_c3, mk_cm, mk_sb, mk_by1, mk_by2, mk_by3, mk_by4, mk_c4, mk_rem, if_neg c1, if_neg c2, if_pos c3, if_pos c4, if_neg c5, if_pos c97, if_neg (not_not_intro c98)]; done) | (simp [mk_code, mk_c3, mk_cm, mk_sb, mk_by1, mk_by2, mk_by3, mk_by4, mk_c4, mk_rem, if_neg c1, if_neg c2, if_pos c3, if_pos c4, if_neg c5, if_pos c97, if_neg (not_not_intro c98)]; done)
                          exact W.zret (v := 1) (ty := .boolean) hx hb hr rfl (fun t ht hW => ⟨⟨1, (ro, sz, op, kd, tk, la, li, g110, 2), rfl, ⟨hres, hre2⟩, by show va_P D vwCl _ t.heap; rw [ht]; exact hP⟩, hS.F ht⟩) hS.2.2 dX1_code_225
                    · refine lv_bipush (v := 92) hx hb dX1_code_160 (by decide) ?_
                      refine lv_goto (tgt := 199) hx hb dX1_code_162 (by decide) ?_
                      refine lv_istore_n (lv' := [(3, .int 92), (2, .int t90), (0, .ref m0), (1, .int x1)]) hx hb dX1_code_199 rfl hl (by decide) rfl (fun ls hl => ?_)
                      refine lv_iload_n hx hb dX1_code_200 rfl (lv_at hl 0 rfl) ?_
                      refine lv_if_le (tgt := 224) hx hb dX1_code_201 (by decide) (fun c111 => ?_) (fun c111 => ?_)
                      · exact absurd c111 (by decide)
                      · refine lv_aload_n hx hb dX1_code_204 rfl (lv_at hl 2 rfl) ?_
                        refine lv_iconst (v := 2) hx hb dX1_code_205 (by decide) ?_
                        refine va_put (D := D) (ci := 1) (v := .int 2) (ty := .int) (C := RX1) (T := TX1) (N := 9) hx hb hts hin tyX1 tyX1_ok nmX1 hown hK hP hD hS 0 rfl rfl 8 (by decide) lk33 (fun _ h9 => h9) rfl (by decide +kernel) rfl rfl (Nat.le_of_ble_eq_true rfl) dX1_code_206 (fun H locs hP hD hS => ?_)
                        have hP : va_P D vwCl (mkW cR cY m0 m1 m2 (ro, sz, op, kd, tk, la, li, g96, 2)) H := hP
                        have hD : va_D A (mkW cR cY m0 m1 m2 (ro, sz, op, kd, tk, la, li, g96, 2)) := hD
                        refine lv_aload_n hx hb dX1_code_209 rfl (lv_at hl 2 rfl) ?_
                        refine va_get (D := D) (ci := 1) (v := .ref m2) (C := RX1) (T := TX1) (N := 9) hx hb hts hin hown hK hP 0 rfl rfl 7 (by decide) lk20 (fun _ h9 => h9) rfl dX1_code_210 ?_
                        refine lv_iconst (v := 0) hx hb dX1_code_213 (by decide) ?_
                        refine lv_bipush (v := 92) hx hb dX1_code_214 (by decide) ?_
                        refine va_iast hx hb hK hP hD hS 2 1 rfl rfl (show ¬ ((0 : Int32) < 0 ∨ 4 ≤ (0 : Int32).toNatClampNeg) from by decide) dX1_code_216 (fun H locs hP hD hS => ?_)
                        obtain ⟨g112, eg112⟩ : ∃ y : Nat → Int32, y = upd g96 (0 : Int32).toNatClampNeg (92 : Int32) := ⟨_, rfl⟩
                        have hP : va_P D vwCl (mkW cR cY m0 m1 m2 (ro, sz, op, kd, tk, la, li, g112, 2)) H := by rw [eg112]; exact hP
                        have hD : va_D A (mkW cR cY m0 m1 m2 (ro, sz, op, kd, tk, la, li, g112, 2)) := kk_D_same hD rfl
                        refine lv_aload_n hx hb dX1_code_217 rfl (lv_at hl 2 rfl) ?_
                        refine va_get (D := D) (ci := 1) (v := .ref m2) (C := RX1) (T := TX1) (N := 9) hx hb hts hin hown hK hP 0 rfl rfl 7 (by decide) lk20 (fun _ h9 => h9) rfl dX1_code_218 ?_
                        refine lv_iconst (v := 1) hx hb dX1_code_221 (by decide) ?_
                        refine lv_iload_n hx hb dX1_code_222 rfl (lv_at hl 0 rfl) ?_
                        refine va_iast hx hb hK hP hD hS 2 1 rfl rfl (show ¬ ((1 : Int32) < 0 ∨ 4 ≤ (1 : Int32).toNatClampNeg) from by decide) dX1_code_223 (fun H locs hP hD hS => ?_)
                        obtain ⟨g113, eg113⟩ : ∃ y : Nat → Int32, y = upd g112 (1 : Int32).toNatClampNeg (92 : Int32) := ⟨_, rfl⟩
                        have hP : va_P D vwCl (mkW cR cY m0 m1 m2 (ro, sz, op, kd, tk, la, li, g113, 2)) H := by rw [eg113]; exact hP
                        have hD : va_D A (mkW cR cY m0 m1 m2 (ro, sz, op, kd, tk, la, li, g113, 2)) := kk_D_same hD rfl
                        refine lv_iconst (v := 1) hx hb dX1_code_224 (by decide) ?_
                        have hres : 1 = (mk_code (ro, sz, op, kd, tk, la, li, bt, mn) x1).1 := by
                          subst eg113 eg112 eg96 et95 et90 eg89 et88 et87
                          first | rfl | (simp only [mk_code, mk_c3, mk_cm, mk_sb, mk_by1, mk_by2, mk_by3, mk_by4, mk_c4, mk_rem, if_neg c1, if_neg c2, if_pos c3, if_pos c4, if_neg c5, if_neg (not_not_intro c97)]; done) | (simp [mk_code, mk_c3, mk_cm, mk_sb, mk_by1, mk_by2, mk_by3, mk_by4, mk_c4, mk_rem, if_neg c1, if_neg c2, if_pos c3, if_pos c4, if_neg c5, if_neg (not_not_intro c97)]; done)
                        have hre2 : (ro, sz, op, kd, tk, la, li, g113, 2) = (mk_code (ro, sz, op, kd, tk, la, li, bt, mn) x1).2 := by
                          subst eg113 eg112 eg96 et95 et90 eg89 et88 et87
                          first | rfl | (simp only [mk_code, mk_c3, mk_cm, mk_sb, mk_by1, mk_by2, mk_by3, mk_by4, mk_c4, mk_rem, if_neg c1, if_neg c2, if_pos c3, if_pos c4, if_neg c5, if_neg (not_not_intro c97)]; done) | (simp [mk_code, mk_c3, mk_cm, mk_sb, mk_by1, mk_by2, mk_by3, mk_by4, mk_c4, mk_rem, if_neg c1, if_neg c2, if_pos c3, if_pos c4, if_neg c5, if_neg (not_not_intro c97)]; done)
                        exact W.zret (v := 1) (ty := .boolean) hx hb hr rfl (fun t ht hW => ⟨⟨1, (ro, sz, op, kd, tk, la, li, g113, 2), rfl, ⟨hres, hre2⟩, by show va_P D vwCl _ t.heap; rw [ht]; exact hP⟩, hS.F ht⟩) hS.2.2 dX1_code_225
                · exact absurd c93 (by decide)
              · exact absurd c92 (by decide)
        · refine lv_iconst (v := 1) hx hb dX1_code_32 (by decide) ?_
          refine lv_goto (tgt := 58) hx hb dX1_code_33 (by decide) ?_
          refine va_put (D := D) (ci := 1) (v := .int 1) (ty := .int) (C := RX1) (T := TX1) (N := 9) hx hb hts hin tyX1 tyX1_ok nmX1 hown hK hP hD hS 0 rfl rfl 8 (by decide) lk33 (fun _ h9 => h9) rfl (by decide +kernel) rfl rfl (Nat.le_of_ble_eq_true rfl) dX1_code_58 (fun H locs hP hD hS => ?_)
          have hP : va_P D vwCl (mkW cR cY m0 m1 m2 (ro, sz, op, kd, tk, la, li, bt, 1)) H := hP
          have hD : va_D A (mkW cR cY m0 m1 m2 (ro, sz, op, kd, tk, la, li, bt, 1)) := hD
          refine lv_iload_n hx hb dX1_code_61 rfl (lv_at hl 1 rfl) ?_
          refine lv_istore_n (lv' := [(2, .int x1), (0, .ref m0), (1, .int x1)]) hx hb dX1_code_62 rfl hl (by decide) rfl (fun ls hl => ?_)
          refine lv_aload_n hx hb dX1_code_63 rfl (lv_at hl 1 rfl) ?_
          refine va_get (D := D) (ci := 1) (v := .int 1) (C := RX1) (T := TX1) (N := 9) hx hb hts hin hown hK hP 0 rfl rfl 8 (by decide) lk33 (fun _ h9 => h9) rfl dX1_code_64 ?_
          refine lv_iconst (v := 1) hx hb dX1_code_67 (by decide) ?_
          refine lv_isub hx hb dX1_code_68 ?_
          refine lv_topi (fun t114 et114 => ?_)
          obtain rfl : t114 = 0 := by rw [et114]; decide
          refine lv_istore_n (lv' := [(3, .int 0), (2, .int x1), (0, .ref m0), (1, .int x1)]) hx hb dX1_code_69 rfl hl (by decide) rfl (fun ls hl => ?_)
          refine lv_iload_n hx hb dX1_code_70 rfl (lv_at hl 0 rfl) ?_
          refine lv_if_le (tgt := 99) hx hb dX1_code_71 (by decide) (fun c115 => ?_) (fun c115 => ?_)
          · refine lv_aload_n hx hb dX1_code_99 rfl (lv_at hl 2 rfl) ?_
            refine va_get (D := D) (ci := 1) (v := .ref m2) (C := RX1) (T := TX1) (N := 9) hx hb hts hin hown hK hP 0 rfl rfl 7 (by decide) lk20 (fun _ h9 => h9) rfl dX1_code_100 ?_
            refine lv_iconst (v := 0) hx hb dX1_code_103 (by decide) ?_
            refine lv_aload_n hx hb dX1_code_104 rfl (lv_at hl 2 rfl) ?_
            refine va_get (D := D) (ci := 1) (v := .int 1) (C := RX1) (T := TX1) (N := 9) hx hb hts hin hown hK hP 0 rfl rfl 8 (by decide) lk33 (fun _ h9 => h9) rfl dX1_code_105 ?_
            refine lv_iconst (v := 1) hx hb dX1_code_108 (by decide) ?_
            refine lv_icmp_ne (tgt := 116) hx hb dX1_code_109 (by decide) (fun c116 => ?_) (fun c116 => ?_)
            · exact absurd c116 (by decide)
            · refine lv_iload_n hx hb dX1_code_112 rfl (lv_at hl 1 rfl) ?_
              refine lv_goto (tgt := 153) hx hb dX1_code_113 (by decide) ?_
              refine va_iast hx hb hK hP hD hS 2 1 rfl rfl (show ¬ ((0 : Int32) < 0 ∨ 4 ≤ (0 : Int32).toNatClampNeg) from by decide) dX1_code_153 (fun H locs hP hD hS => ?_)
              obtain ⟨g117, eg117⟩ : ∃ y : Nat → Int32, y = upd bt (0 : Int32).toNatClampNeg x1 := ⟨_, rfl⟩
              have hP : va_P D vwCl (mkW cR cY m0 m1 m2 (ro, sz, op, kd, tk, la, li, g117, 1)) H := by rw [eg117]; exact hP
              have hD : va_D A (mkW cR cY m0 m1 m2 (ro, sz, op, kd, tk, la, li, g117, 1)) := kk_D_same hD rfl
              refine lv_iload_n hx hb dX1_code_154 rfl (lv_at hl 3 rfl) ?_
              refine lv_bipush (v := 92) hx hb dX1_code_155 (by decide) ?_
              refine lv_icmp_ne (tgt := 165) hx hb dX1_code_157 (by decide) (fun c118 => ?_) (fun c118 => ?_)
              · refine lv_iload_n hx hb dX1_code_165 rfl (lv_at hl 3 rfl) ?_
                refine lv_bipush (v := 10) hx hb dX1_code_166 (by decide) ?_
                refine lv_icmp_ne (tgt := 176) hx hb dX1_code_168 (by decide) (fun c119 => ?_) (fun c119 => ?_)
                · refine lv_iload_n hx hb dX1_code_176 rfl (lv_at hl 3 rfl) ?_
                  refine lv_bipush (v := 9) hx hb dX1_code_177 (by decide) ?_
                  refine lv_icmp_ne (tgt := 187) hx hb dX1_code_179 (by decide) (fun c120 => ?_) (fun c120 => ?_)
                  · refine lv_iload_n hx hb dX1_code_187 rfl (lv_at hl 3 rfl) ?_
                    refine lv_bipush (v := 13) hx hb dX1_code_188 (by decide) ?_
                    refine lv_icmp_ne (tgt := 198) hx hb dX1_code_190 (by decide) (fun c121 => ?_) (fun c121 => ?_)
                    · refine lv_iconst (v := 0) hx hb dX1_code_198 (by decide) ?_
                      refine lv_istore_n (lv' := [(3, .int 0), (2, .int x1), (0, .ref m0), (1, .int x1)]) hx hb dX1_code_199 rfl hl (by decide) rfl (fun ls hl => ?_)
                      refine lv_iload_n hx hb dX1_code_200 rfl (lv_at hl 0 rfl) ?_
                      refine lv_if_le (tgt := 224) hx hb dX1_code_201 (by decide) (fun c122 => ?_) (fun c122 => ?_)
                      · refine lv_iconst (v := 1) hx hb dX1_code_224 (by decide) ?_
                        have hres : 1 = (mk_code (ro, sz, op, kd, tk, la, li, bt, mn) x1).1 := by
                          subst eg117
                          first | rfl | (simp only [mk_code, mk_c3, mk_cm, mk_sb, mk_by1, mk_by2, mk_by3, mk_by4, mk_c4, mk_rem, if_neg c1, if_neg c2, if_pos c3, if_neg c4, if_pos c118, if_pos c119, if_pos c120, if_pos c121]; done) | (simp [mk_code, mk_c3, mk_cm, mk_sb, mk_by1, mk_by2, mk_by3, mk_by4, mk_c4, mk_rem, if_neg c1, if_neg c2, if_pos c3, if_neg c4, if_pos c118, if_pos c119, if_pos c120, if_pos c121]; done)
                        have hre2 : (ro, sz, op, kd, tk, la, li, g117, 1) = (mk_code (ro, sz, op, kd, tk, la, li, bt, mn) x1).2 := by
                          subst eg117
                          first | rfl | (simp only [mk_code, mk_c3, mk_cm, mk_sb, mk_by1, mk_by2, mk_by3, mk_by4, mk_c4, mk_rem, if_neg c1, if_neg c2, if_pos c3, if_neg c4, if_pos c118, if_pos c119, if_pos c120, if_pos c121]; done) | (simp [mk_code, mk_c3, mk_cm, mk_sb, mk_by1, mk_by2, mk_by3, mk_by4, mk_c4, mk_rem, if_neg c1, if_neg c2, if_pos c3, if_neg c4, if_pos c118, if_pos c119, if_pos c120, if_pos c121]; done)
                        exact W.zret (v := 1) (ty := .boolean) hx hb hr rfl (fun t ht hW => ⟨⟨1, (ro, sz, op, kd, tk, la, li, g117, 1), rfl, ⟨hres, hre2⟩, by show va_P D vwCl _ t.heap; rw [ht]; exact hP⟩, hS.F ht⟩) hS.2.2 dX1_code_225
                      · exact absurd c122 (by decide)
                    · refine lv_bipush (v := 114) hx hb dX1_code_193 (by decide) ?_
                      refine lv_goto (tgt := 199) hx hb dX1_code_195 (by decide) ?_
                      refine lv_istore_n (lv' := [(3, .int 114), (2, .int x1), (0, .ref m0), (1, .int x1)]) hx hb dX1_code_199 rfl hl (by decide) rfl (fun ls hl => ?_)
                      refine lv_iload_n hx hb dX1_code_200 rfl (lv_at hl 0 rfl) ?_
                      refine lv_if_le (tgt := 224) hx hb dX1_code_201 (by decide) (fun c123 => ?_) (fun c123 => ?_)
                      · exact absurd c123 (by decide)
                      · refine lv_aload_n hx hb dX1_code_204 rfl (lv_at hl 2 rfl) ?_
                        refine lv_iconst (v := 2) hx hb dX1_code_205 (by decide) ?_
                        refine va_put (D := D) (ci := 1) (v := .int 2) (ty := .int) (C := RX1) (T := TX1) (N := 9) hx hb hts hin tyX1 tyX1_ok nmX1 hown hK hP hD hS 0 rfl rfl 8 (by decide) lk33 (fun _ h9 => h9) rfl (by decide +kernel) rfl rfl (Nat.le_of_ble_eq_true rfl) dX1_code_206 (fun H locs hP hD hS => ?_)
                        have hP : va_P D vwCl (mkW cR cY m0 m1 m2 (ro, sz, op, kd, tk, la, li, g117, 2)) H := hP
                        have hD : va_D A (mkW cR cY m0 m1 m2 (ro, sz, op, kd, tk, la, li, g117, 2)) := hD
                        refine lv_aload_n hx hb dX1_code_209 rfl (lv_at hl 2 rfl) ?_
                        refine va_get (D := D) (ci := 1) (v := .ref m2) (C := RX1) (T := TX1) (N := 9) hx hb hts hin hown hK hP 0 rfl rfl 7 (by decide) lk20 (fun _ h9 => h9) rfl dX1_code_210 ?_
                        refine lv_iconst (v := 0) hx hb dX1_code_213 (by decide) ?_
                        refine lv_bipush (v := 92) hx hb dX1_code_214 (by decide) ?_
                        refine va_iast hx hb hK hP hD hS 2 1 rfl rfl (show ¬ ((0 : Int32) < 0 ∨ 4 ≤ (0 : Int32).toNatClampNeg) from by decide) dX1_code_216 (fun H locs hP hD hS => ?_)
                        obtain ⟨g124, eg124⟩ : ∃ y : Nat → Int32, y = upd g117 (0 : Int32).toNatClampNeg (92 : Int32) := ⟨_, rfl⟩
                        have hP : va_P D vwCl (mkW cR cY m0 m1 m2 (ro, sz, op, kd, tk, la, li, g124, 2)) H := by rw [eg124]; exact hP
                        have hD : va_D A (mkW cR cY m0 m1 m2 (ro, sz, op, kd, tk, la, li, g124, 2)) := kk_D_same hD rfl
                        refine lv_aload_n hx hb dX1_code_217 rfl (lv_at hl 2 rfl) ?_
                        refine va_get (D := D) (ci := 1) (v := .ref m2) (C := RX1) (T := TX1) (N := 9) hx hb hts hin hown hK hP 0 rfl rfl 7 (by decide) lk20 (fun _ h9 => h9) rfl dX1_code_218 ?_
                        refine lv_iconst (v := 1) hx hb dX1_code_221 (by decide) ?_
                        refine lv_iload_n hx hb dX1_code_222 rfl (lv_at hl 0 rfl) ?_
                        refine va_iast hx hb hK hP hD hS 2 1 rfl rfl (show ¬ ((1 : Int32) < 0 ∨ 4 ≤ (1 : Int32).toNatClampNeg) from by decide) dX1_code_223 (fun H locs hP hD hS => ?_)
                        obtain ⟨g125, eg125⟩ : ∃ y : Nat → Int32, y = upd g124 (1 : Int32).toNatClampNeg (114 : Int32) := ⟨_, rfl⟩
                        have hP : va_P D vwCl (mkW cR cY m0 m1 m2 (ro, sz, op, kd, tk, la, li, g125, 2)) H := by rw [eg125]; exact hP
                        have hD : va_D A (mkW cR cY m0 m1 m2 (ro, sz, op, kd, tk, la, li, g125, 2)) := kk_D_same hD rfl
                        refine lv_iconst (v := 1) hx hb dX1_code_224 (by decide) ?_
                        have hres : 1 = (mk_code (ro, sz, op, kd, tk, la, li, bt, mn) x1).1 := by
                          subst eg125 eg124 eg117
                          first | rfl | (simp only [mk_code, mk_c3, mk_cm, mk_sb, mk_by1, mk_by2, mk_by3, mk_by4, mk_c4, mk_rem, if_neg c1, if_neg c2, if_pos c3, if_neg c4, if_pos c118, if_pos c119, if_pos c120, if_neg (not_not_intro c121)]; done) | (simp [mk_code, mk_c3, mk_cm, mk_sb, mk_by1, mk_by2, mk_by3, mk_by4, mk_c4, mk_rem, if_neg c1, if_neg c2, if_pos c3, if_neg c4, if_pos c118, if_pos c119, if_pos c120, if_neg (not_not_intro c121)]; done)
                        have hre2 : (ro, sz, op, kd, tk, la, li, g125, 2) = (mk_code (ro, sz, op, kd, tk, la, li, bt, mn) x1).2 := by
                          subst eg125 eg124 eg117
                          first | rfl | (simp only [mk_code, mk_c3, mk_cm, mk_sb, mk_by1, mk_by2, mk_by3, mk_by4, mk_c4, mk_rem, if_neg c1, if_neg c2, if_pos c3, if_neg c4, if_pos c118, if_pos c119, if_pos c120, if_neg (not_not_intro c121)]; done) | (simp [mk_code, mk_c3, mk_cm, mk_sb, mk_by1, mk_by2, mk_by3, mk_by4, mk_c4, mk_rem, if_neg c1, if_neg c2, if_pos c3, if_neg c4, if_pos c118, if_pos c119, if_pos c120, if_neg (not_not_intro c121)]; done)
                        exact W.zret (v := 1) (ty := .boolean) hx hb hr rfl (fun t ht hW => ⟨⟨1, (ro, sz, op, kd, tk, la, li, g125, 2), rfl, ⟨hres, hre2⟩, by show va_P D vwCl _ t.heap; rw [ht]; exact hP⟩, hS.F ht⟩) hS.2.2 dX1_code_225
                  · refine lv_bipush (v := 116) hx hb dX1_code_182 (by decide) ?_
                    refine lv_goto (tgt := 199) hx hb dX1_code_184 (by decide) ?_
                    refine lv_istore_n (lv' := [(3, .int 116), (2, .int x1), (0, .ref m0), (1, .int x1)]) hx hb dX1_code_199 rfl hl (by decide) rfl (fun ls hl => ?_)
                    refine lv_iload_n hx hb dX1_code_200 rfl (lv_at hl 0 rfl) ?_
                    refine lv_if_le (tgt := 224) hx hb dX1_code_201 (by decide) (fun c126 => ?_) (fun c126 => ?_)
                    · exact absurd c126 (by decide)
                    · refine lv_aload_n hx hb dX1_code_204 rfl (lv_at hl 2 rfl) ?_
                      refine lv_iconst (v := 2) hx hb dX1_code_205 (by decide) ?_
                      refine va_put (D := D) (ci := 1) (v := .int 2) (ty := .int) (C := RX1) (T := TX1) (N := 9) hx hb hts hin tyX1 tyX1_ok nmX1 hown hK hP hD hS 0 rfl rfl 8 (by decide) lk33 (fun _ h9 => h9) rfl (by decide +kernel) rfl rfl (Nat.le_of_ble_eq_true rfl) dX1_code_206 (fun H locs hP hD hS => ?_)
                      have hP : va_P D vwCl (mkW cR cY m0 m1 m2 (ro, sz, op, kd, tk, la, li, g117, 2)) H := hP
                      have hD : va_D A (mkW cR cY m0 m1 m2 (ro, sz, op, kd, tk, la, li, g117, 2)) := hD
                      refine lv_aload_n hx hb dX1_code_209 rfl (lv_at hl 2 rfl) ?_
                      refine va_get (D := D) (ci := 1) (v := .ref m2) (C := RX1) (T := TX1) (N := 9) hx hb hts hin hown hK hP 0 rfl rfl 7 (by decide) lk20 (fun _ h9 => h9) rfl dX1_code_210 ?_
                      refine lv_iconst (v := 0) hx hb dX1_code_213 (by decide) ?_
                      refine lv_bipush (v := 92) hx hb dX1_code_214 (by decide) ?_
                      refine va_iast hx hb hK hP hD hS 2 1 rfl rfl (show ¬ ((0 : Int32) < 0 ∨ 4 ≤ (0 : Int32).toNatClampNeg) from by decide) dX1_code_216 (fun H locs hP hD hS => ?_)
                      obtain ⟨g127, eg127⟩ : ∃ y : Nat → Int32, y = upd g117 (0 : Int32).toNatClampNeg (92 : Int32) := ⟨_, rfl⟩
                      have hP : va_P D vwCl (mkW cR cY m0 m1 m2 (ro, sz, op, kd, tk, la, li, g127, 2)) H := by rw [eg127]; exact hP
                      have hD : va_D A (mkW cR cY m0 m1 m2 (ro, sz, op, kd, tk, la, li, g127, 2)) := kk_D_same hD rfl
                      refine lv_aload_n hx hb dX1_code_217 rfl (lv_at hl 2 rfl) ?_
                      refine va_get (D := D) (ci := 1) (v := .ref m2) (C := RX1) (T := TX1) (N := 9) hx hb hts hin hown hK hP 0 rfl rfl 7 (by decide) lk20 (fun _ h9 => h9) rfl dX1_code_218 ?_
                      refine lv_iconst (v := 1) hx hb dX1_code_221 (by decide) ?_
                      refine lv_iload_n hx hb dX1_code_222 rfl (lv_at hl 0 rfl) ?_
                      refine va_iast hx hb hK hP hD hS 2 1 rfl rfl (show ¬ ((1 : Int32) < 0 ∨ 4 ≤ (1 : Int32).toNatClampNeg) from by decide) dX1_code_223 (fun H locs hP hD hS => ?_)
                      obtain ⟨g128, eg128⟩ : ∃ y : Nat → Int32, y = upd g127 (1 : Int32).toNatClampNeg (116 : Int32) := ⟨_, rfl⟩
                      have hP : va_P D vwCl (mkW cR cY m0 m1 m2 (ro, sz, op, kd, tk, la, li, g128, 2)) H := by rw [eg128]; exact hP
                      have hD : va_D A (mkW cR cY m0 m1 m2 (ro, sz, op, kd, tk, la, li, g128, 2)) := kk_D_same hD rfl
                      refine lv_iconst (v := 1) hx hb dX1_code_224 (by decide) ?_
                      have hres : 1 = (mk_code (ro, sz, op, kd, tk, la, li, bt, mn) x1).1 := by
                        subst eg128 eg127 eg117
                        first | rfl | (simp only [mk_code, mk_c3, mk_cm, mk_sb, mk_by1, mk_by2, mk_by3, mk_by4, mk_c4, mk_rem, if_neg c1, if_neg c2, if_pos c3, if_neg c4, if_pos c118, if_pos c119, if_neg (not_not_intro c120)]; done) | (simp [mk_code, mk_c3, mk_cm, mk_sb, mk_by1, mk_by2, mk_by3, mk_by4, mk_c4, mk_rem, if_neg c1, if_neg c2, if_pos c3, if_neg c4, if_pos c118, if_pos c119, if_neg (not_not_intro c120)]; done)
                      have hre2 : (ro, sz, op, kd, tk, la, li, g128, 2) = (mk_code (ro, sz, op, kd, tk, la, li, bt, mn) x1).2 := by
                        subst eg128 eg127 eg117
                        first | rfl | (simp only [mk_code, mk_c3, mk_cm, mk_sb, mk_by1, mk_by2, mk_by3, mk_by4, mk_c4, mk_rem, if_neg c1, if_neg c2, if_pos c3, if_neg c4, if_pos c118, if_pos c119, if_neg (not_not_intro c120)]; done) | (simp [mk_code, mk_c3, mk_cm, mk_sb, mk_by1, mk_by2, mk_by3, mk_by4, mk_c4, mk_rem, if_neg c1, if_neg c2, if_pos c3, if_neg c4, if_pos c118, if_pos c119, if_neg (not_not_intro c120)]; done)
                      exact W.zret (v := 1) (ty := .boolean) hx hb hr rfl (fun t ht hW => ⟨⟨1, (ro, sz, op, kd, tk, la, li, g128, 2), rfl, ⟨hres, hre2⟩, by show va_P D vwCl _ t.heap; rw [ht]; exact hP⟩, hS.F ht⟩) hS.2.2 dX1_code_225
                · refine lv_bipush (v := 110) hx hb dX1_code_171 (by decide) ?_
                  refine lv_goto (tgt := 199) hx hb dX1_code_173 (by decide) ?_
                  refine lv_istore_n (lv' := [(3, .int 110), (2, .int x1), (0, .ref m0), (1, .int x1)]) hx hb dX1_code_199 rfl hl (by decide) rfl (fun ls hl => ?_)
                  refine lv_iload_n hx hb dX1_code_200 rfl (lv_at hl 0 rfl) ?_
                  refine lv_if_le (tgt := 224) hx hb dX1_code_201 (by decide) (fun c129 => ?_) (fun c129 => ?_)
                  · exact absurd c129 (by decide)
                  · refine lv_aload_n hx hb dX1_code_204 rfl (lv_at hl 2 rfl) ?_
                    refine lv_iconst (v := 2) hx hb dX1_code_205 (by decide) ?_
                    refine va_put (D := D) (ci := 1) (v := .int 2) (ty := .int) (C := RX1) (T := TX1) (N := 9) hx hb hts hin tyX1 tyX1_ok nmX1 hown hK hP hD hS 0 rfl rfl 8 (by decide) lk33 (fun _ h9 => h9) rfl (by decide +kernel) rfl rfl (Nat.le_of_ble_eq_true rfl) dX1_code_206 (fun H locs hP hD hS => ?_)
                    have hP : va_P D vwCl (mkW cR cY m0 m1 m2 (ro, sz, op, kd, tk, la, li, g117, 2)) H := hP
                    have hD : va_D A (mkW cR cY m0 m1 m2 (ro, sz, op, kd, tk, la, li, g117, 2)) := hD
                    refine lv_aload_n hx hb dX1_code_209 rfl (lv_at hl 2 rfl) ?_
                    refine va_get (D := D) (ci := 1) (v := .ref m2) (C := RX1) (T := TX1) (N := 9) hx hb hts hin hown hK hP 0 rfl rfl 7 (by decide) lk20 (fun _ h9 => h9) rfl dX1_code_210 ?_
                    refine lv_iconst (v := 0) hx hb dX1_code_213 (by decide) ?_
                    refine lv_bipush (v := 92) hx hb dX1_code_214 (by decide) ?_
                    refine va_iast hx hb hK hP hD hS 2 1 rfl rfl (show ¬ ((0 : Int32) < 0 ∨ 4 ≤ (0 : Int32).toNatClampNeg) from by decide) dX1_code_216 (fun H locs hP hD hS => ?_)
                    obtain ⟨g130, eg130⟩ : ∃ y : Nat → Int32, y = upd g117 (0 : Int32).toNatClampNeg (92 : Int32) := ⟨_, rfl⟩
                    have hP : va_P D vwCl (mkW cR cY m0 m1 m2 (ro, sz, op, kd, tk, la, li, g130, 2)) H := by rw [eg130]; exact hP
                    have hD : va_D A (mkW cR cY m0 m1 m2 (ro, sz, op, kd, tk, la, li, g130, 2)) := kk_D_same hD rfl
                    refine lv_aload_n hx hb dX1_code_217 rfl (lv_at hl 2 rfl) ?_
                    refine va_get (D := D) (ci := 1) (v := .ref m2) (C := RX1) (T := TX1) (N := 9) hx hb hts hin hown hK hP 0 rfl rfl 7 (by decide) lk20 (fun _ h9 => h9) rfl dX1_code_218 ?_
                    refine lv_iconst (v := 1) hx hb dX1_code_221 (by decide) ?_
                    refine lv_iload_n hx hb dX1_code_222 rfl (lv_at hl 0 rfl) ?_
                    refine va_iast hx hb hK hP hD hS 2 1 rfl rfl (show ¬ ((1 : Int32) < 0 ∨ 4 ≤ (1 : Int32).toNatClampNeg) from by decide) dX1_code_223 (fun H locs hP hD hS => ?_)
                    obtain ⟨g131, eg131⟩ : ∃ y : Nat → Int32, y = upd g130 (1 : Int32).toNatClampNeg (110 : Int32) := ⟨_, rfl⟩
                    have hP : va_P D vwCl (mkW cR cY m0 m1 m2 (ro, sz, op, kd, tk, la, li, g131, 2)) H := by rw [eg131]; exact hP
                    have hD : va_D A (mkW cR cY m0 m1 m2 (ro, sz, op, kd, tk, la, li, g131, 2)) := kk_D_same hD rfl
                    refine lv_iconst (v := 1) hx hb dX1_code_224 (by decide) ?_
                    have hres : 1 = (mk_code (ro, sz, op, kd, tk, la, li, bt, mn) x1).1 := by
                      subst eg131 eg130 eg117
                      first | rfl | (simp only [mk_code, mk_c3, mk_cm, mk_sb, mk_by1, mk_by2, mk_by3, mk_by4, mk_c4, mk_rem, if_neg c1, if_neg c2, if_pos c3, if_neg c4, if_pos c118, if_neg (not_not_intro c119)]; done) | (simp [mk_code, mk_c3, mk_cm, mk_sb, mk_by1, mk_by2, mk_by3, mk_by4, mk_c4, mk_rem, if_neg c1, if_neg c2, if_pos c3, if_neg c4, if_pos c118, if_neg (not_not_intro c119)]; done)
                    have hre2 : (ro, sz, op, kd, tk, la, li, g131, 2) = (mk_code (ro, sz, op, kd, tk, la, li, bt, mn) x1).2 := by
                      subst eg131 eg130 eg117
                      first | rfl | (simp only [mk_code, mk_c3, mk_cm, mk_sb, mk_by1, mk_by2, mk_by3, mk_by4, mk_c4, mk_rem, if_neg c1, if_neg c2, if_pos c3, if_neg c4, if_pos c118, if_neg (not_not_intro c119)]; done) | (simp [mk_code, mk_c3, mk_cm, mk_sb, mk_by1, mk_by2, mk_by3, mk_by4, mk_c4, mk_rem, if_neg c1, if_neg c2, if_pos c3, if_neg c4, if_pos c118, if_neg (not_not_intro c119)]; done)
                    exact W.zret (v := 1) (ty := .boolean) hx hb hr rfl (fun t ht hW => ⟨⟨1, (ro, sz, op, kd, tk, la, li, g131, 2), rfl, ⟨hres, hre2⟩, by show va_P D vwCl _ t.heap; rw [ht]; exact hP⟩, hS.F ht⟩) hS.2.2 dX1_code_225
              · refine lv_bipush (v := 92) hx hb dX1_code_160 (by decide) ?_
                refine lv_goto (tgt := 199) hx hb dX1_code_162 (by decide) ?_
                refine lv_istore_n (lv' := [(3, .int 92), (2, .int x1), (0, .ref m0), (1, .int x1)]) hx hb dX1_code_199 rfl hl (by decide) rfl (fun ls hl => ?_)
                refine lv_iload_n hx hb dX1_code_200 rfl (lv_at hl 0 rfl) ?_
                refine lv_if_le (tgt := 224) hx hb dX1_code_201 (by decide) (fun c132 => ?_) (fun c132 => ?_)
                · exact absurd c132 (by decide)
                · refine lv_aload_n hx hb dX1_code_204 rfl (lv_at hl 2 rfl) ?_
                  refine lv_iconst (v := 2) hx hb dX1_code_205 (by decide) ?_
                  refine va_put (D := D) (ci := 1) (v := .int 2) (ty := .int) (C := RX1) (T := TX1) (N := 9) hx hb hts hin tyX1 tyX1_ok nmX1 hown hK hP hD hS 0 rfl rfl 8 (by decide) lk33 (fun _ h9 => h9) rfl (by decide +kernel) rfl rfl (Nat.le_of_ble_eq_true rfl) dX1_code_206 (fun H locs hP hD hS => ?_)
                  have hP : va_P D vwCl (mkW cR cY m0 m1 m2 (ro, sz, op, kd, tk, la, li, g117, 2)) H := hP
                  have hD : va_D A (mkW cR cY m0 m1 m2 (ro, sz, op, kd, tk, la, li, g117, 2)) := hD
                  refine lv_aload_n hx hb dX1_code_209 rfl (lv_at hl 2 rfl) ?_
                  refine va_get (D := D) (ci := 1) (v := .ref m2) (C := RX1) (T := TX1) (N := 9) hx hb hts hin hown hK hP 0 rfl rfl 7 (by decide) lk20 (fun _ h9 => h9) rfl dX1_code_210 ?_
                  refine lv_iconst (v := 0) hx hb dX1_code_213 (by decide) ?_
                  refine lv_bipush (v := 92) hx hb dX1_code_214 (by decide) ?_
                  refine va_iast hx hb hK hP hD hS 2 1 rfl rfl (show ¬ ((0 : Int32) < 0 ∨ 4 ≤ (0 : Int32).toNatClampNeg) from by decide) dX1_code_216 (fun H locs hP hD hS => ?_)
                  obtain ⟨g133, eg133⟩ : ∃ y : Nat → Int32, y = upd g117 (0 : Int32).toNatClampNeg (92 : Int32) := ⟨_, rfl⟩
                  have hP : va_P D vwCl (mkW cR cY m0 m1 m2 (ro, sz, op, kd, tk, la, li, g133, 2)) H := by rw [eg133]; exact hP
                  have hD : va_D A (mkW cR cY m0 m1 m2 (ro, sz, op, kd, tk, la, li, g133, 2)) := kk_D_same hD rfl
                  refine lv_aload_n hx hb dX1_code_217 rfl (lv_at hl 2 rfl) ?_
                  refine va_get (D := D) (ci := 1) (v := .ref m2) (C := RX1) (T := TX1) (N := 9) hx hb hts hin hown hK hP 0 rfl rfl 7 (by decide) lk20 (fun _ h9 => h9) rfl dX1_code_218 ?_
                  refine lv_iconst (v := 1) hx hb dX1_code_221 (by decide) ?_
                  refine lv_iload_n hx hb dX1_code_222 rfl (lv_at hl 0 rfl) ?_
                  refine va_iast hx hb hK hP hD hS 2 1 rfl rfl (show ¬ ((1 : Int32) < 0 ∨ 4 ≤ (1 : Int32).toNatClampNeg) from by decide) dX1_code_223 (fun H locs hP hD hS => ?_)
                  obtain ⟨g134, eg134⟩ : ∃ y : Nat → Int32, y = upd g133 (1 : Int32).toNatClampNeg (92 : Int32) := ⟨_, rfl⟩
                  have hP : va_P D vwCl (mkW cR cY m0 m1 m2 (ro, sz, op, kd, tk, la, li, g134, 2)) H := by rw [eg134]; exact hP
                  have hD : va_D A (mkW cR cY m0 m1 m2 (ro, sz, op, kd, tk, la, li, g134, 2)) := kk_D_same hD rfl
                  refine lv_iconst (v := 1) hx hb dX1_code_224 (by decide) ?_
                  have hres : 1 = (mk_code (ro, sz, op, kd, tk, la, li, bt, mn) x1).1 := by
                    subst eg134 eg133 eg117
                    first | rfl | (simp only [mk_code, mk_c3, mk_cm, mk_sb, mk_by1, mk_by2, mk_by3, mk_by4, mk_c4, mk_rem, if_neg c1, if_neg c2, if_pos c3, if_neg c4, if_neg (not_not_intro c118)]; done) | (simp [mk_code, mk_c3, mk_cm, mk_sb, mk_by1, mk_by2, mk_by3, mk_by4, mk_c4, mk_rem, if_neg c1, if_neg c2, if_pos c3, if_neg c4, if_neg (not_not_intro c118)]; done)
                  have hre2 : (ro, sz, op, kd, tk, la, li, g134, 2) = (mk_code (ro, sz, op, kd, tk, la, li, bt, mn) x1).2 := by
                    subst eg134 eg133 eg117
                    first | rfl | (simp only [mk_code, mk_c3, mk_cm, mk_sb, mk_by1, mk_by2, mk_by3, mk_by4, mk_c4, mk_rem, if_neg c1, if_neg c2, if_pos c3, if_neg c4, if_neg (not_not_intro c118)]; done) | (simp [mk_code, mk_c3, mk_cm, mk_sb, mk_by1, mk_by2, mk_by3, mk_by4, mk_c4, mk_rem, if_neg c1, if_neg c2, if_pos c3, if_neg c4, if_neg (not_not_intro c118)]; done)
                  exact W.zret (v := 1) (ty := .boolean) hx hb hr rfl (fun t ht hW => ⟨⟨1, (ro, sz, op, kd, tk, la, li, g134, 2), rfl, ⟨hres, hre2⟩, by show va_P D vwCl _ t.heap; rw [ht]; exact hP⟩, hS.F ht⟩) hS.2.2 dX1_code_225
          · exact absurd c115 (by decide)
      · refine lv_iload_n hx hb dX1_code_16 rfl (lv_at hl 1 rfl) ?_
        refine lv_ldc (v := 57344) hx hb hown (hts (.constant RX1 31 (57344)) (by decide +kernel)) dX1_code_17 ?_
        refine lv_icmp_ge (tgt := 24) hx hb dX1_code_19 (by decide) (fun c135 => ?_) (fun c135 => ?_)
        · refine lv_aload_n hx hb dX1_code_24 rfl (lv_at hl 0 rfl) ?_
          refine lv_iload_n hx hb dX1_code_25 rfl (lv_at hl 1 rfl) ?_
          refine lv_sipush (v := 128) hx hb dX1_code_26 (by decide) ?_
          refine lv_icmp_ge (tgt := 36) hx hb dX1_code_29 (by decide) (fun c136 => ?_) (fun c136 => ?_)
          · refine lv_iload_n hx hb dX1_code_36 rfl (lv_at hl 1 rfl) ?_
            refine lv_sipush (v := 2048) hx hb dX1_code_37 (by decide) ?_
            refine lv_icmp_ge (tgt := 47) hx hb dX1_code_40 (by decide) (fun c137 => ?_) (fun c137 => ?_)
            · refine lv_iload_n hx hb dX1_code_47 rfl (lv_at hl 1 rfl) ?_
              refine lv_ldc (v := 65536) hx hb hown (hts (.constant RX1 32 (65536)) (by decide +kernel)) dX1_code_48 ?_
              refine lv_icmp_ge (tgt := 57) hx hb dX1_code_50 (by decide) (fun c138 => ?_) (fun c138 => ?_)
              · refine lv_iconst (v := 4) hx hb dX1_code_57 (by decide) ?_
                refine va_put (D := D) (ci := 1) (v := .int 4) (ty := .int) (C := RX1) (T := TX1) (N := 9) hx hb hts hin tyX1 tyX1_ok nmX1 hown hK hP hD hS 0 rfl rfl 8 (by decide) lk33 (fun _ h9 => h9) rfl (by decide +kernel) rfl rfl (Nat.le_of_ble_eq_true rfl) dX1_code_58 (fun H locs hP hD hS => ?_)
                have hP : va_P D vwCl (mkW cR cY m0 m1 m2 (ro, sz, op, kd, tk, la, li, bt, 4)) H := hP
                have hD : va_D A (mkW cR cY m0 m1 m2 (ro, sz, op, kd, tk, la, li, bt, 4)) := hD
                refine lv_iload_n hx hb dX1_code_61 rfl (lv_at hl 1 rfl) ?_
                refine lv_istore_n (lv' := [(2, .int x1), (0, .ref m0), (1, .int x1)]) hx hb dX1_code_62 rfl hl (by decide) rfl (fun ls hl => ?_)
                refine lv_aload_n hx hb dX1_code_63 rfl (lv_at hl 1 rfl) ?_
                refine va_get (D := D) (ci := 1) (v := .int 4) (C := RX1) (T := TX1) (N := 9) hx hb hts hin hown hK hP 0 rfl rfl 8 (by decide) lk33 (fun _ h9 => h9) rfl dX1_code_64 ?_
                refine lv_iconst (v := 1) hx hb dX1_code_67 (by decide) ?_
                refine lv_isub hx hb dX1_code_68 ?_
                refine lv_topi (fun t139 et139 => ?_)
                obtain rfl : t139 = 3 := by rw [et139]; decide
                refine lv_istore_n (lv' := [(3, .int 3), (2, .int x1), (0, .ref m0), (1, .int x1)]) hx hb dX1_code_69 rfl hl (by decide) rfl (fun ls hl => ?_)
                refine lv_iload_n hx hb dX1_code_70 rfl (lv_at hl 0 rfl) ?_
                refine lv_if_le (tgt := 99) hx hb dX1_code_71 (by decide) (fun c140 => ?_) (fun c140 => ?_)
                · exact absurd c140 (by decide)
                · refine lv_aload_n hx hb dX1_code_74 rfl (lv_at hl 2 rfl) ?_
                  refine va_get (D := D) (ci := 1) (v := .ref m2) (C := RX1) (T := TX1) (N := 9) hx hb hts hin hown hK hP 0 rfl rfl 7 (by decide) lk20 (fun _ h9 => h9) rfl dX1_code_75 ?_
                  refine lv_iload_n hx hb dX1_code_78 rfl (lv_at hl 0 rfl) ?_
                  refine lv_sipush (v := 128) hx hb dX1_code_79 (by decide) ?_
                  refine lv_iload_n hx hb dX1_code_82 rfl (lv_at hl 1 rfl) ?_
                  refine lv_bipush (v := 64) hx hb dX1_code_83 (by decide) ?_
                  refine lv_irem hx hb dX1_code_85 (by decide) ?_
                  refine lv_topi (fun t141 et141 => ?_)
                  refine lv_iadd hx hb dX1_code_86 ?_
                  refine lv_topi (fun t142 et142 => ?_)
                  refine va_iast hx hb hK hP hD hS 2 1 rfl rfl (show ¬ ((3 : Int32) < 0 ∨ 4 ≤ (3 : Int32).toNatClampNeg) from by decide) dX1_code_87 (fun H locs hP hD hS => ?_)
                  obtain ⟨g143, eg143⟩ : ∃ y : Nat → Int32, y = upd bt (3 : Int32).toNatClampNeg t142 := ⟨_, rfl⟩
                  have hP : va_P D vwCl (mkW cR cY m0 m1 m2 (ro, sz, op, kd, tk, la, li, g143, 4)) H := by rw [eg143]; exact hP
                  have hD : va_D A (mkW cR cY m0 m1 m2 (ro, sz, op, kd, tk, la, li, g143, 4)) := kk_D_same hD rfl
                  refine lv_iload_n hx hb dX1_code_88 rfl (lv_at hl 1 rfl) ?_
                  refine lv_bipush (v := 64) hx hb dX1_code_89 (by decide) ?_
                  refine lv_idiv hx hb dX1_code_91 (by decide) ?_
                  refine lv_topi (fun t144 et144 => ?_)
                  refine lv_istore_n (lv' := [(2, .int t144), (3, .int 3), (0, .ref m0), (1, .int x1)]) hx hb dX1_code_92 rfl hl (by decide) rfl (fun ls hl => ?_)
                  refine lv_iinc (v := 2) (lv' := [(3, .int 2), (2, .int t144), (0, .ref m0), (1, .int x1)]) hx hb dX1_code_93 hl (k := 1) rfl (by decide) (by decide) rfl (fun ls hl => ?_)
                  refine lv_goto (tgt := 70) hx hb dX1_code_96 (by decide) ?_
                  refine lv_iload_n hx hb dX1_code_70 rfl (lv_at hl 0 rfl) ?_
                  refine lv_if_le (tgt := 99) hx hb dX1_code_71 (by decide) (fun c146 => ?_) (fun c146 => ?_)
                  · exact absurd c146 (by decide)
                  · refine lv_aload_n hx hb dX1_code_74 rfl (lv_at hl 2 rfl) ?_
                    refine va_get (D := D) (ci := 1) (v := .ref m2) (C := RX1) (T := TX1) (N := 9) hx hb hts hin hown hK hP 0 rfl rfl 7 (by decide) lk20 (fun _ h9 => h9) rfl dX1_code_75 ?_
                    refine lv_iload_n hx hb dX1_code_78 rfl (lv_at hl 0 rfl) ?_
                    refine lv_sipush (v := 128) hx hb dX1_code_79 (by decide) ?_
                    refine lv_iload_n hx hb dX1_code_82 rfl (lv_at hl 1 rfl) ?_
                    refine lv_bipush (v := 64) hx hb dX1_code_83 (by decide) ?_
                    refine lv_irem hx hb dX1_code_85 (by decide) ?_
                    refine lv_topi (fun t147 et147 => ?_)
                    refine lv_iadd hx hb dX1_code_86 ?_
                    refine lv_topi (fun t148 et148 => ?_)
                    refine va_iast hx hb hK hP hD hS 2 1 rfl rfl (show ¬ ((2 : Int32) < 0 ∨ 4 ≤ (2 : Int32).toNatClampNeg) from by decide) dX1_code_87 (fun H locs hP hD hS => ?_)
                    obtain ⟨g149, eg149⟩ : ∃ y : Nat → Int32, y = upd g143 (2 : Int32).toNatClampNeg t148 := ⟨_, rfl⟩
                    have hP : va_P D vwCl (mkW cR cY m0 m1 m2 (ro, sz, op, kd, tk, la, li, g149, 4)) H := by rw [eg149]; exact hP
                    have hD : va_D A (mkW cR cY m0 m1 m2 (ro, sz, op, kd, tk, la, li, g149, 4)) := kk_D_same hD rfl
                    refine lv_iload_n hx hb dX1_code_88 rfl (lv_at hl 1 rfl) ?_
                    refine lv_bipush (v := 64) hx hb dX1_code_89 (by decide) ?_
                    refine lv_idiv hx hb dX1_code_91 (by decide) ?_
                    refine lv_topi (fun t150 et150 => ?_)
                    refine lv_istore_n (lv' := [(2, .int t150), (3, .int 2), (0, .ref m0), (1, .int x1)]) hx hb dX1_code_92 rfl hl (by decide) rfl (fun ls hl => ?_)
                    refine lv_iinc (v := 1) (lv' := [(3, .int 1), (2, .int t150), (0, .ref m0), (1, .int x1)]) hx hb dX1_code_93 hl (k := 1) rfl (by decide) (by decide) rfl (fun ls hl => ?_)
                    refine lv_goto (tgt := 70) hx hb dX1_code_96 (by decide) ?_
                    refine lv_iload_n hx hb dX1_code_70 rfl (lv_at hl 0 rfl) ?_
                    refine lv_if_le (tgt := 99) hx hb dX1_code_71 (by decide) (fun c152 => ?_) (fun c152 => ?_)
                    · exact absurd c152 (by decide)
                    · refine lv_aload_n hx hb dX1_code_74 rfl (lv_at hl 2 rfl) ?_
                      refine va_get (D := D) (ci := 1) (v := .ref m2) (C := RX1) (T := TX1) (N := 9) hx hb hts hin hown hK hP 0 rfl rfl 7 (by decide) lk20 (fun _ h9 => h9) rfl dX1_code_75 ?_
                      refine lv_iload_n hx hb dX1_code_78 rfl (lv_at hl 0 rfl) ?_
                      refine lv_sipush (v := 128) hx hb dX1_code_79 (by decide) ?_
                      refine lv_iload_n hx hb dX1_code_82 rfl (lv_at hl 1 rfl) ?_
                      refine lv_bipush (v := 64) hx hb dX1_code_83 (by decide) ?_
                      refine lv_irem hx hb dX1_code_85 (by decide) ?_
                      refine lv_topi (fun t153 et153 => ?_)
                      refine lv_iadd hx hb dX1_code_86 ?_
                      refine lv_topi (fun t154 et154 => ?_)
                      refine va_iast hx hb hK hP hD hS 2 1 rfl rfl (show ¬ ((1 : Int32) < 0 ∨ 4 ≤ (1 : Int32).toNatClampNeg) from by decide) dX1_code_87 (fun H locs hP hD hS => ?_)
                      obtain ⟨g155, eg155⟩ : ∃ y : Nat → Int32, y = upd g149 (1 : Int32).toNatClampNeg t154 := ⟨_, rfl⟩
                      have hP : va_P D vwCl (mkW cR cY m0 m1 m2 (ro, sz, op, kd, tk, la, li, g155, 4)) H := by rw [eg155]; exact hP
                      have hD : va_D A (mkW cR cY m0 m1 m2 (ro, sz, op, kd, tk, la, li, g155, 4)) := kk_D_same hD rfl
                      refine lv_iload_n hx hb dX1_code_88 rfl (lv_at hl 1 rfl) ?_
                      refine lv_bipush (v := 64) hx hb dX1_code_89 (by decide) ?_
                      refine lv_idiv hx hb dX1_code_91 (by decide) ?_
                      refine lv_topi (fun t156 et156 => ?_)
                      refine lv_istore_n (lv' := [(2, .int t156), (3, .int 1), (0, .ref m0), (1, .int x1)]) hx hb dX1_code_92 rfl hl (by decide) rfl (fun ls hl => ?_)
                      refine lv_iinc (v := 0) (lv' := [(3, .int 0), (2, .int t156), (0, .ref m0), (1, .int x1)]) hx hb dX1_code_93 hl (k := 1) rfl (by decide) (by decide) rfl (fun ls hl => ?_)
                      refine lv_goto (tgt := 70) hx hb dX1_code_96 (by decide) ?_
                      refine lv_iload_n hx hb dX1_code_70 rfl (lv_at hl 0 rfl) ?_
                      refine lv_if_le (tgt := 99) hx hb dX1_code_71 (by decide) (fun c158 => ?_) (fun c158 => ?_)
                      · refine lv_aload_n hx hb dX1_code_99 rfl (lv_at hl 2 rfl) ?_
                        refine va_get (D := D) (ci := 1) (v := .ref m2) (C := RX1) (T := TX1) (N := 9) hx hb hts hin hown hK hP 0 rfl rfl 7 (by decide) lk20 (fun _ h9 => h9) rfl dX1_code_100 ?_
                        refine lv_iconst (v := 0) hx hb dX1_code_103 (by decide) ?_
                        refine lv_aload_n hx hb dX1_code_104 rfl (lv_at hl 2 rfl) ?_
                        refine va_get (D := D) (ci := 1) (v := .int 4) (C := RX1) (T := TX1) (N := 9) hx hb hts hin hown hK hP 0 rfl rfl 8 (by decide) lk33 (fun _ h9 => h9) rfl dX1_code_105 ?_
                        refine lv_iconst (v := 1) hx hb dX1_code_108 (by decide) ?_
                        refine lv_icmp_ne (tgt := 116) hx hb dX1_code_109 (by decide) (fun c159 => ?_) (fun c159 => ?_)
                        · refine lv_aload_n hx hb dX1_code_116 rfl (lv_at hl 2 rfl) ?_
                          refine va_get (D := D) (ci := 1) (v := .int 4) (C := RX1) (T := TX1) (N := 9) hx hb hts hin hown hK hP 0 rfl rfl 8 (by decide) lk33 (fun _ h9 => h9) rfl dX1_code_117 ?_
                          refine lv_iconst (v := 2) hx hb dX1_code_120 (by decide) ?_
                          refine lv_icmp_ne (tgt := 132) hx hb dX1_code_121 (by decide) (fun c160 => ?_) (fun c160 => ?_)
                          · refine lv_aload_n hx hb dX1_code_132 rfl (lv_at hl 2 rfl) ?_
                            refine va_get (D := D) (ci := 1) (v := .int 4) (C := RX1) (T := TX1) (N := 9) hx hb hts hin hown hK hP 0 rfl rfl 8 (by decide) lk33 (fun _ h9 => h9) rfl dX1_code_133 ?_
                            refine lv_iconst (v := 3) hx hb dX1_code_136 (by decide) ?_
                            refine lv_icmp_ne (tgt := 148) hx hb dX1_code_137 (by decide) (fun c161 => ?_) (fun c161 => ?_)
                            · refine lv_sipush (v := 240) hx hb dX1_code_148 (by decide) ?_
                              refine lv_iload_n hx hb dX1_code_151 rfl (lv_at hl 1 rfl) ?_
                              refine lv_iadd hx hb dX1_code_152 ?_
                              refine lv_topi (fun t162 et162 => ?_)
                              refine va_iast hx hb hK hP hD hS 2 1 rfl rfl (show ¬ ((0 : Int32) < 0 ∨ 4 ≤ (0 : Int32).toNatClampNeg) from by decide) dX1_code_153 (fun H locs hP hD hS => ?_)
                              obtain ⟨g163, eg163⟩ : ∃ y : Nat → Int32, y = upd g155 (0 : Int32).toNatClampNeg t162 := ⟨_, rfl⟩
                              have hP : va_P D vwCl (mkW cR cY m0 m1 m2 (ro, sz, op, kd, tk, la, li, g163, 4)) H := by rw [eg163]; exact hP
                              have hD : va_D A (mkW cR cY m0 m1 m2 (ro, sz, op, kd, tk, la, li, g163, 4)) := kk_D_same hD rfl
                              refine lv_iload_n hx hb dX1_code_154 rfl (lv_at hl 3 rfl) ?_
                              refine lv_bipush (v := 92) hx hb dX1_code_155 (by decide) ?_
                              refine lv_icmp_ne (tgt := 165) hx hb dX1_code_157 (by decide) (fun c164 => ?_) (fun c164 => ?_)
                              · refine lv_iload_n hx hb dX1_code_165 rfl (lv_at hl 3 rfl) ?_
                                refine lv_bipush (v := 10) hx hb dX1_code_166 (by decide) ?_
                                refine lv_icmp_ne (tgt := 176) hx hb dX1_code_168 (by decide) (fun c165 => ?_) (fun c165 => ?_)
                                · refine lv_iload_n hx hb dX1_code_176 rfl (lv_at hl 3 rfl) ?_
                                  refine lv_bipush (v := 9) hx hb dX1_code_177 (by decide) ?_
                                  refine lv_icmp_ne (tgt := 187) hx hb dX1_code_179 (by decide) (fun c166 => ?_) (fun c166 => ?_)
                                  · refine lv_iload_n hx hb dX1_code_187 rfl (lv_at hl 3 rfl) ?_
                                    refine lv_bipush (v := 13) hx hb dX1_code_188 (by decide) ?_
                                    refine lv_icmp_ne (tgt := 198) hx hb dX1_code_190 (by decide) (fun c167 => ?_) (fun c167 => ?_)
                                    · refine lv_iconst (v := 0) hx hb dX1_code_198 (by decide) ?_
                                      refine lv_istore_n (lv' := [(3, .int 0), (2, .int t156), (0, .ref m0), (1, .int x1)]) hx hb dX1_code_199 rfl hl (by decide) rfl (fun ls hl => ?_)
                                      refine lv_iload_n hx hb dX1_code_200 rfl (lv_at hl 0 rfl) ?_
                                      refine lv_if_le (tgt := 224) hx hb dX1_code_201 (by decide) (fun c168 => ?_) (fun c168 => ?_)
                                      · refine lv_iconst (v := 1) hx hb dX1_code_224 (by decide) ?_
                                        have hres : 1 = (mk_code (ro, sz, op, kd, tk, la, li, bt, mn) x1).1 := by
                                          subst eg163 et162 et156 eg155 et154 et153 et150 eg149 et148 et147 et144 eg143 et142 et141
                                          first | rfl | (simp only [mk_code, mk_c3, mk_cm, mk_sb, mk_by1, mk_by2, mk_by3, mk_by4, mk_c4, mk_rem, if_neg c1, if_neg c2, if_neg c3, if_pos c135, if_pos c136, if_pos c137, if_pos c138, if_pos c164, if_pos c165, if_pos c166, if_pos c167]; done) | (simp [mk_code, mk_c3, mk_cm, mk_sb, mk_by1, mk_by2, mk_by3, mk_by4, mk_c4, mk_rem, if_neg c1, if_neg c2, if_neg c3, if_pos c135, if_pos c136, if_pos c137, if_pos c138, if_pos c164, if_pos c165, if_pos c166, if_pos c167]; done)
                                        have hre2 : (ro, sz, op, kd, tk, la, li, g163, 4) = (mk_code (ro, sz, op, kd, tk, la, li, bt, mn) x1).2 := by
                                          subst eg163 et162 et156 eg155 et154 et153 et150 eg149 et148 et147 et144 eg143 et142 et141
                                          first | rfl | (simp only [mk_code, mk_c3, mk_cm, mk_sb, mk_by1, mk_by2, mk_by3, mk_by4, mk_c4, mk_rem, if_neg c1, if_neg c2, if_neg c3, if_pos c135, if_pos c136, if_pos c137, if_pos c138, if_pos c164, if_pos c165, if_pos c166, if_pos c167]; done) | (simp [mk_code, mk_c3, mk_cm, mk_sb, mk_by1, mk_by2, mk_by3, mk_by4, mk_c4, mk_rem, if_neg c1, if_neg c2, if_neg c3, if_pos c135, if_pos c136, if_pos c137, if_pos c138, if_pos c164, if_pos c165, if_pos c166, if_pos c167]; done)
                                        exact W.zret (v := 1) (ty := .boolean) hx hb hr rfl (fun t ht hW => ⟨⟨1, (ro, sz, op, kd, tk, la, li, g163, 4), rfl, ⟨hres, hre2⟩, by show va_P D vwCl _ t.heap; rw [ht]; exact hP⟩, hS.F ht⟩) hS.2.2 dX1_code_225
                                      · exact absurd c168 (by decide)
                                    · refine lv_bipush (v := 114) hx hb dX1_code_193 (by decide) ?_
                                      refine lv_goto (tgt := 199) hx hb dX1_code_195 (by decide) ?_
                                      refine lv_istore_n (lv' := [(3, .int 114), (2, .int t156), (0, .ref m0), (1, .int x1)]) hx hb dX1_code_199 rfl hl (by decide) rfl (fun ls hl => ?_)
                                      refine lv_iload_n hx hb dX1_code_200 rfl (lv_at hl 0 rfl) ?_
                                      refine lv_if_le (tgt := 224) hx hb dX1_code_201 (by decide) (fun c169 => ?_) (fun c169 => ?_)
                                      · exact absurd c169 (by decide)
                                      · refine lv_aload_n hx hb dX1_code_204 rfl (lv_at hl 2 rfl) ?_
                                        refine lv_iconst (v := 2) hx hb dX1_code_205 (by decide) ?_
                                        refine va_put (D := D) (ci := 1) (v := .int 2) (ty := .int) (C := RX1) (T := TX1) (N := 9) hx hb hts hin tyX1 tyX1_ok nmX1 hown hK hP hD hS 0 rfl rfl 8 (by decide) lk33 (fun _ h9 => h9) rfl (by decide +kernel) rfl rfl (Nat.le_of_ble_eq_true rfl) dX1_code_206 (fun H locs hP hD hS => ?_)
                                        have hP : va_P D vwCl (mkW cR cY m0 m1 m2 (ro, sz, op, kd, tk, la, li, g163, 2)) H := hP
                                        have hD : va_D A (mkW cR cY m0 m1 m2 (ro, sz, op, kd, tk, la, li, g163, 2)) := hD
                                        refine lv_aload_n hx hb dX1_code_209 rfl (lv_at hl 2 rfl) ?_
                                        refine va_get (D := D) (ci := 1) (v := .ref m2) (C := RX1) (T := TX1) (N := 9) hx hb hts hin hown hK hP 0 rfl rfl 7 (by decide) lk20 (fun _ h9 => h9) rfl dX1_code_210 ?_
                                        refine lv_iconst (v := 0) hx hb dX1_code_213 (by decide) ?_
                                        refine lv_bipush (v := 92) hx hb dX1_code_214 (by decide) ?_
                                        refine va_iast hx hb hK hP hD hS 2 1 rfl rfl (show ¬ ((0 : Int32) < 0 ∨ 4 ≤ (0 : Int32).toNatClampNeg) from by decide) dX1_code_216 (fun H locs hP hD hS => ?_)
                                        obtain ⟨g170, eg170⟩ : ∃ y : Nat → Int32, y = upd g163 (0 : Int32).toNatClampNeg (92 : Int32) := ⟨_, rfl⟩
                                        have hP : va_P D vwCl (mkW cR cY m0 m1 m2 (ro, sz, op, kd, tk, la, li, g170, 2)) H := by rw [eg170]; exact hP
                                        have hD : va_D A (mkW cR cY m0 m1 m2 (ro, sz, op, kd, tk, la, li, g170, 2)) := kk_D_same hD rfl
                                        refine lv_aload_n hx hb dX1_code_217 rfl (lv_at hl 2 rfl) ?_
                                        refine va_get (D := D) (ci := 1) (v := .ref m2) (C := RX1) (T := TX1) (N := 9) hx hb hts hin hown hK hP 0 rfl rfl 7 (by decide) lk20 (fun _ h9 => h9) rfl dX1_code_218 ?_
                                        refine lv_iconst (v := 1) hx hb dX1_code_221 (by decide) ?_
                                        refine lv_iload_n hx hb dX1_code_222 rfl (lv_at hl 0 rfl) ?_
                                        refine va_iast hx hb hK hP hD hS 2 1 rfl rfl (show ¬ ((1 : Int32) < 0 ∨ 4 ≤ (1 : Int32).toNatClampNeg) from by decide) dX1_code_223 (fun H locs hP hD hS => ?_)
                                        obtain ⟨g171, eg171⟩ : ∃ y : Nat → Int32, y = upd g170 (1 : Int32).toNatClampNeg (114 : Int32) := ⟨_, rfl⟩
                                        have hP : va_P D vwCl (mkW cR cY m0 m1 m2 (ro, sz, op, kd, tk, la, li, g171, 2)) H := by rw [eg171]; exact hP
                                        have hD : va_D A (mkW cR cY m0 m1 m2 (ro, sz, op, kd, tk, la, li, g171, 2)) := kk_D_same hD rfl
                                        refine lv_iconst (v := 1) hx hb dX1_code_224 (by decide) ?_
                                        have hres : 1 = (mk_code (ro, sz, op, kd, tk, la, li, bt, mn) x1).1 := by
                                          subst eg171 eg170 eg163 et162 et156 eg155 et154 et153 et150 eg149 et148 et147 et144 eg143 et142 et141
                                          first | rfl | (simp only [mk_code, mk_c3, mk_cm, mk_sb, mk_by1, mk_by2, mk_by3, mk_by4, mk_c4, mk_rem, if_neg c1, if_neg c2, if_neg c3, if_pos c135, if_pos c136, if_pos c137, if_pos c138, if_pos c164, if_pos c165, if_pos c166, if_neg (not_not_intro c167)]; done) | (simp [mk_code, mk_c3, mk_cm, mk_sb, mk_by1, mk_by2, mk_by3, mk_by4, mk_c4, mk_rem, if_neg c1, if_neg c2, if_neg c3, if_pos c135, if_pos c136, if_pos c137, if_pos c138, if_pos c164, if_pos c165, if_pos c166, if_neg (not_not_intro c167)]; done)
                                        have hre2 : (ro, sz, op, kd, tk, la, li, g171, 2) = (mk_code (ro, sz, op, kd, tk, la, li, bt, mn) x1).2 := by
                                          subst eg171 eg170 eg163 et162 et156 eg155 et154 et153 et150 eg149 et148 et147 et144 eg143 et142 et141
                                          first | rfl | (simp only [mk_code, mk_c3, mk_cm, mk_sb, mk_by1, mk_by2, mk_by3, mk_by4, mk_c4, mk_rem, if_neg c1, if_neg c2, if_neg c3, if_pos c135, if_pos c136, if_pos c137, if_pos c138, if_pos c164, if_pos c165, if_pos c166, if_neg (not_not_intro c167)]; done) | (simp [mk_code, mk_c3, mk_cm, mk_sb, mk_by1, mk_by2, mk_by3, mk_by4, mk_c4, mk_rem, if_neg c1, if_neg c2, if_neg c3, if_pos c135, if_pos c136, if_pos c137, if_pos c138, if_pos c164, if_pos c165, if_pos c166, if_neg (not_not_intro c167)]; done)
                                        exact W.zret (v := 1) (ty := .boolean) hx hb hr rfl (fun t ht hW => ⟨⟨1, (ro, sz, op, kd, tk, la, li, g171, 2), rfl, ⟨hres, hre2⟩, by show va_P D vwCl _ t.heap; rw [ht]; exact hP⟩, hS.F ht⟩) hS.2.2 dX1_code_225
                                  · refine lv_bipush (v := 116) hx hb dX1_code_182 (by decide) ?_
                                    refine lv_goto (tgt := 199) hx hb dX1_code_184 (by decide) ?_
                                    refine lv_istore_n (lv' := [(3, .int 116), (2, .int t156), (0, .ref m0), (1, .int x1)]) hx hb dX1_code_199 rfl hl (by decide) rfl (fun ls hl => ?_)
                                    refine lv_iload_n hx hb dX1_code_200 rfl (lv_at hl 0 rfl) ?_
                                    refine lv_if_le (tgt := 224) hx hb dX1_code_201 (by decide) (fun c172 => ?_) (fun c172 => ?_)
                                    · exact absurd c172 (by decide)
                                    · refine lv_aload_n hx hb dX1_code_204 rfl (lv_at hl 2 rfl) ?_
                                      refine lv_iconst (v := 2) hx hb dX1_code_205 (by decide) ?_
                                      refine va_put (D := D) (ci := 1) (v := .int 2) (ty := .int) (C := RX1) (T := TX1) (N := 9) hx hb hts hin tyX1 tyX1_ok nmX1 hown hK hP hD hS 0 rfl rfl 8 (by decide) lk33 (fun _ h9 => h9) rfl (by decide +kernel) rfl rfl (Nat.le_of_ble_eq_true rfl) dX1_code_206 (fun H locs hP hD hS => ?_)
                                      have hP : va_P D vwCl (mkW cR cY m0 m1 m2 (ro, sz, op, kd, tk, la, li, g163, 2)) H := hP
                                      have hD : va_D A (mkW cR cY m0 m1 m2 (ro, sz, op, kd, tk, la, li, g163, 2)) := hD
                                      refine lv_aload_n hx hb dX1_code_209 rfl (lv_at hl 2 rfl) ?_
                                      refine va_get (D := D) (ci := 1) (v := .ref m2) (C := RX1) (T := TX1) (N := 9) hx hb hts hin hown hK hP 0 rfl rfl 7 (by decide) lk20 (fun _ h9 => h9) rfl dX1_code_210 ?_
                                      refine lv_iconst (v := 0) hx hb dX1_code_213 (by decide) ?_
                                      refine lv_bipush (v := 92) hx hb dX1_code_214 (by decide) ?_
                                      refine va_iast hx hb hK hP hD hS 2 1 rfl rfl (show ¬ ((0 : Int32) < 0 ∨ 4 ≤ (0 : Int32).toNatClampNeg) from by decide) dX1_code_216 (fun H locs hP hD hS => ?_)
                                      obtain ⟨g173, eg173⟩ : ∃ y : Nat → Int32, y = upd g163 (0 : Int32).toNatClampNeg (92 : Int32) := ⟨_, rfl⟩
                                      have hP : va_P D vwCl (mkW cR cY m0 m1 m2 (ro, sz, op, kd, tk, la, li, g173, 2)) H := by rw [eg173]; exact hP
                                      have hD : va_D A (mkW cR cY m0 m1 m2 (ro, sz, op, kd, tk, la, li, g173, 2)) := kk_D_same hD rfl
                                      refine lv_aload_n hx hb dX1_code_217 rfl (lv_at hl 2 rfl) ?_
                                      refine va_get (D := D) (ci := 1) (v := .ref m2) (C := RX1) (T := TX1) (N := 9) hx hb hts hin hown hK hP 0 rfl rfl 7 (by decide) lk20 (fun _ h9 => h9) rfl dX1_code_218 ?_
                                      refine lv_iconst (v := 1) hx hb dX1_code_221 (by decide) ?_
                                      refine lv_iload_n hx hb dX1_code_222 rfl (lv_at hl 0 rfl) ?_
                                      refine va_iast hx hb hK hP hD hS 2 1 rfl rfl (show ¬ ((1 : Int32) < 0 ∨ 4 ≤ (1 : Int32).toNatClampNeg) from by decide) dX1_code_223 (fun H locs hP hD hS => ?_)
                                      obtain ⟨g174, eg174⟩ : ∃ y : Nat → Int32, y = upd g173 (1 : Int32).toNatClampNeg (116 : Int32) := ⟨_, rfl⟩
                                      have hP : va_P D vwCl (mkW cR cY m0 m1 m2 (ro, sz, op, kd, tk, la, li, g174, 2)) H := by rw [eg174]; exact hP
                                      have hD : va_D A (mkW cR cY m0 m1 m2 (ro, sz, op, kd, tk, la, li, g174, 2)) := kk_D_same hD rfl
                                      refine lv_iconst (v := 1) hx hb dX1_code_224 (by decide) ?_
                                      have hres : 1 = (mk_code (ro, sz, op, kd, tk, la, li, bt, mn) x1).1 := by
                                        subst eg174 eg173 eg163 et162 et156 eg155 et154 et153 et150 eg149 et148 et147 et144 eg143 et142 et141
                                        first | rfl | (simp only [mk_code, mk_c3, mk_cm, mk_sb, mk_by1, mk_by2, mk_by3, mk_by4, mk_c4, mk_rem, if_neg c1, if_neg c2, if_neg c3, if_pos c135, if_pos c136, if_pos c137, if_pos c138, if_pos c164, if_pos c165, if_neg (not_not_intro c166)]; done) | (simp [mk_code, mk_c3, mk_cm, mk_sb, mk_by1, mk_by2, mk_by3, mk_by4, mk_c4, mk_rem, if_neg c1, if_neg c2, if_neg c3, if_pos c135, if_pos c136, if_pos c137, if_pos c138, if_pos c164, if_pos c165, if_neg (not_not_intro c166)]; done)
                                      have hre2 : (ro, sz, op, kd, tk, la, li, g174, 2) = (mk_code (ro, sz, op, kd, tk, la, li, bt, mn) x1).2 := by
                                        subst eg174 eg173 eg163 et162 et156 eg155 et154 et153 et150 eg149 et148 et147 et144 eg143 et142 et141
                                        first | rfl | (simp only [mk_code, mk_c3, mk_cm, mk_sb, mk_by1, mk_by2, mk_by3, mk_by4, mk_c4, mk_rem, if_neg c1, if_neg c2, if_neg c3, if_pos c135, if_pos c136, if_pos c137, if_pos c138, if_pos c164, if_pos c165, if_neg (not_not_intro c166)]; done) | (simp [mk_code, mk_c3, mk_cm, mk_sb, mk_by1, mk_by2, mk_by3, mk_by4, mk_c4, mk_rem, if_neg c1, if_neg c2, if_neg c3, if_pos c135, if_pos c136, if_pos c137, if_pos c138, if_pos c164, if_pos c165, if_neg (not_not_intro c166)]; done)
                                      exact W.zret (v := 1) (ty := .boolean) hx hb hr rfl (fun t ht hW => ⟨⟨1, (ro, sz, op, kd, tk, la, li, g174, 2), rfl, ⟨hres, hre2⟩, by show va_P D vwCl _ t.heap; rw [ht]; exact hP⟩, hS.F ht⟩) hS.2.2 dX1_code_225
                                · refine lv_bipush (v := 110) hx hb dX1_code_171 (by decide) ?_
                                  refine lv_goto (tgt := 199) hx hb dX1_code_173 (by decide) ?_
                                  refine lv_istore_n (lv' := [(3, .int 110), (2, .int t156), (0, .ref m0), (1, .int x1)]) hx hb dX1_code_199 rfl hl (by decide) rfl (fun ls hl => ?_)
                                  refine lv_iload_n hx hb dX1_code_200 rfl (lv_at hl 0 rfl) ?_
                                  refine lv_if_le (tgt := 224) hx hb dX1_code_201 (by decide) (fun c175 => ?_) (fun c175 => ?_)
                                  · exact absurd c175 (by decide)
                                  · refine lv_aload_n hx hb dX1_code_204 rfl (lv_at hl 2 rfl) ?_
                                    refine lv_iconst (v := 2) hx hb dX1_code_205 (by decide) ?_
                                    refine va_put (D := D) (ci := 1) (v := .int 2) (ty := .int) (C := RX1) (T := TX1) (N := 9) hx hb hts hin tyX1 tyX1_ok nmX1 hown hK hP hD hS 0 rfl rfl 8 (by decide) lk33 (fun _ h9 => h9) rfl (by decide +kernel) rfl rfl (Nat.le_of_ble_eq_true rfl) dX1_code_206 (fun H locs hP hD hS => ?_)
                                    have hP : va_P D vwCl (mkW cR cY m0 m1 m2 (ro, sz, op, kd, tk, la, li, g163, 2)) H := hP
                                    have hD : va_D A (mkW cR cY m0 m1 m2 (ro, sz, op, kd, tk, la, li, g163, 2)) := hD
                                    refine lv_aload_n hx hb dX1_code_209 rfl (lv_at hl 2 rfl) ?_
                                    refine va_get (D := D) (ci := 1) (v := .ref m2) (C := RX1) (T := TX1) (N := 9) hx hb hts hin hown hK hP 0 rfl rfl 7 (by decide) lk20 (fun _ h9 => h9) rfl dX1_code_210 ?_
                                    refine lv_iconst (v := 0) hx hb dX1_code_213 (by decide) ?_
                                    refine lv_bipush (v := 92) hx hb dX1_code_214 (by decide) ?_
                                    refine va_iast hx hb hK hP hD hS 2 1 rfl rfl (show ¬ ((0 : Int32) < 0 ∨ 4 ≤ (0 : Int32).toNatClampNeg) from by decide) dX1_code_216 (fun H locs hP hD hS => ?_)
                                    obtain ⟨g176, eg176⟩ : ∃ y : Nat → Int32, y = upd g163 (0 : Int32).toNatClampNeg (92 : Int32) := ⟨_, rfl⟩
                                    have hP : va_P D vwCl (mkW cR cY m0 m1 m2 (ro, sz, op, kd, tk, la, li, g176, 2)) H := by rw [eg176]; exact hP
                                    have hD : va_D A (mkW cR cY m0 m1 m2 (ro, sz, op, kd, tk, la, li, g176, 2)) := kk_D_same hD rfl
                                    refine lv_aload_n hx hb dX1_code_217 rfl (lv_at hl 2 rfl) ?_
                                    refine va_get (D := D) (ci := 1) (v := .ref m2) (C := RX1) (T := TX1) (N := 9) hx hb hts hin hown hK hP 0 rfl rfl 7 (by decide) lk20 (fun _ h9 => h9) rfl dX1_code_218 ?_
                                    refine lv_iconst (v := 1) hx hb dX1_code_221 (by decide) ?_
                                    refine lv_iload_n hx hb dX1_code_222 rfl (lv_at hl 0 rfl) ?_
                                    refine va_iast hx hb hK hP hD hS 2 1 rfl rfl (show ¬ ((1 : Int32) < 0 ∨ 4 ≤ (1 : Int32).toNatClampNeg) from by decide) dX1_code_223 (fun H locs hP hD hS => ?_)
                                    obtain ⟨g177, eg177⟩ : ∃ y : Nat → Int32, y = upd g176 (1 : Int32).toNatClampNeg (110 : Int32) := ⟨_, rfl⟩
                                    have hP : va_P D vwCl (mkW cR cY m0 m1 m2 (ro, sz, op, kd, tk, la, li, g177, 2)) H := by rw [eg177]; exact hP
                                    have hD : va_D A (mkW cR cY m0 m1 m2 (ro, sz, op, kd, tk, la, li, g177, 2)) := kk_D_same hD rfl
                                    refine lv_iconst (v := 1) hx hb dX1_code_224 (by decide) ?_
                                    have hres : 1 = (mk_code (ro, sz, op, kd, tk, la, li, bt, mn) x1).1 := by
                                      subst eg177 eg176 eg163 et162 et156 eg155 et154 et153 et150 eg149 et148 et147 et144 eg143 et142 et141
                                      first | rfl | (simp only [mk_code, mk_c3, mk_cm, mk_sb, mk_by1, mk_by2, mk_by3, mk_by4, mk_c4, mk_rem, if_neg c1, if_neg c2, if_neg c3, if_pos c135, if_pos c136, if_pos c137, if_pos c138, if_pos c164, if_neg (not_not_intro c165)]; done) | (simp [mk_code, mk_c3, mk_cm, mk_sb, mk_by1, mk_by2, mk_by3, mk_by4, mk_c4, mk_rem, if_neg c1, if_neg c2, if_neg c3, if_pos c135, if_pos c136, if_pos c137, if_pos c138, if_pos c164, if_neg (not_not_intro c165)]; done)
                                    have hre2 : (ro, sz, op, kd, tk, la, li, g177, 2) = (mk_code (ro, sz, op, kd, tk, la, li, bt, mn) x1).2 := by
                                      subst eg177 eg176 eg163 et162 et156 eg155 et154 et153 et150 eg149 et148 et147 et144 eg143 et142 et141
                                      first | rfl | (simp only [mk_code, mk_c3, mk_cm, mk_sb, mk_by1, mk_by2, mk_by3, mk_by4, mk_c4, mk_rem, if_neg c1, if_neg c2, if_neg c3, if_pos c135, if_pos c136, if_pos c137, if_pos c138, if_pos c164, if_neg (not_not_intro c165)]; done) | (simp [mk_code, mk_c3, mk_cm, mk_sb, mk_by1, mk_by2, mk_by3, mk_by4, mk_c4, mk_rem, if_neg c1, if_neg c2, if_neg c3, if_pos c135, if_pos c136, if_pos c137, if_pos c138, if_pos c164, if_neg (not_not_intro c165)]; done)
                                    exact W.zret (v := 1) (ty := .boolean) hx hb hr rfl (fun t ht hW => ⟨⟨1, (ro, sz, op, kd, tk, la, li, g177, 2), rfl, ⟨hres, hre2⟩, by show va_P D vwCl _ t.heap; rw [ht]; exact hP⟩, hS.F ht⟩) hS.2.2 dX1_code_225
                              · refine lv_bipush (v := 92) hx hb dX1_code_160 (by decide) ?_
                                refine lv_goto (tgt := 199) hx hb dX1_code_162 (by decide) ?_
                                refine lv_istore_n (lv' := [(3, .int 92), (2, .int t156), (0, .ref m0), (1, .int x1)]) hx hb dX1_code_199 rfl hl (by decide) rfl (fun ls hl => ?_)
                                refine lv_iload_n hx hb dX1_code_200 rfl (lv_at hl 0 rfl) ?_
                                refine lv_if_le (tgt := 224) hx hb dX1_code_201 (by decide) (fun c178 => ?_) (fun c178 => ?_)
                                · exact absurd c178 (by decide)
                                · refine lv_aload_n hx hb dX1_code_204 rfl (lv_at hl 2 rfl) ?_
                                  refine lv_iconst (v := 2) hx hb dX1_code_205 (by decide) ?_
                                  refine va_put (D := D) (ci := 1) (v := .int 2) (ty := .int) (C := RX1) (T := TX1) (N := 9) hx hb hts hin tyX1 tyX1_ok nmX1 hown hK hP hD hS 0 rfl rfl 8 (by decide) lk33 (fun _ h9 => h9) rfl (by decide +kernel) rfl rfl (Nat.le_of_ble_eq_true rfl) dX1_code_206 (fun H locs hP hD hS => ?_)
                                  have hP : va_P D vwCl (mkW cR cY m0 m1 m2 (ro, sz, op, kd, tk, la, li, g163, 2)) H := hP
                                  have hD : va_D A (mkW cR cY m0 m1 m2 (ro, sz, op, kd, tk, la, li, g163, 2)) := hD
                                  refine lv_aload_n hx hb dX1_code_209 rfl (lv_at hl 2 rfl) ?_
                                  refine va_get (D := D) (ci := 1) (v := .ref m2) (C := RX1) (T := TX1) (N := 9) hx hb hts hin hown hK hP 0 rfl rfl 7 (by decide) lk20 (fun _ h9 => h9) rfl dX1_code_210 ?_
                                  refine lv_iconst (v := 0) hx hb dX1_code_213 (by decide) ?_
                                  refine lv_bipush (v := 92) hx hb dX1_code_214 (by decide) ?_
                                  refine va_iast hx hb hK hP hD hS 2 1 rfl rfl (show ¬ ((0 : Int32) < 0 ∨ 4 ≤ (0 : Int32).toNatClampNeg) from by decide) dX1_code_216 (fun H locs hP hD hS => ?_)
                                  obtain ⟨g179, eg179⟩ : ∃ y : Nat → Int32, y = upd g163 (0 : Int32).toNatClampNeg (92 : Int32) := ⟨_, rfl⟩
                                  have hP : va_P D vwCl (mkW cR cY m0 m1 m2 (ro, sz, op, kd, tk, la, li, g179, 2)) H := by rw [eg179]; exact hP
                                  have hD : va_D A (mkW cR cY m0 m1 m2 (ro, sz, op, kd, tk, la, li, g179, 2)) := kk_D_same hD rfl
                                  refine lv_aload_n hx hb dX1_code_217 rfl (lv_at hl 2 rfl) ?_
                                  refine va_get (D := D) (ci := 1) (v := .ref m2) (C := RX1) (T := TX1) (N := 9) hx hb hts hin hown hK hP 0 rfl rfl 7 (by decide) lk20 (fun _ h9 => h9) rfl dX1_code_218 ?_
                                  refine lv_iconst (v := 1) hx hb dX1_code_221 (by decide) ?_
                                  refine lv_iload_n hx hb dX1_code_222 rfl (lv_at hl 0 rfl) ?_
                                  refine va_iast hx hb hK hP hD hS 2 1 rfl rfl (show ¬ ((1 : Int32) < 0 ∨ 4 ≤ (1 : Int32).toNatClampNeg) from by decide) dX1_code_223 (fun H locs hP hD hS => ?_)
                                  obtain ⟨g180, eg180⟩ : ∃ y : Nat → Int32, y = upd g179 (1 : Int32).toNatClampNeg (92 : Int32) := ⟨_, rfl⟩
                                  have hP : va_P D vwCl (mkW cR cY m0 m1 m2 (ro, sz, op, kd, tk, la, li, g180, 2)) H := by rw [eg180]; exact hP
                                  have hD : va_D A (mkW cR cY m0 m1 m2 (ro, sz, op, kd, tk, la, li, g180, 2)) := kk_D_same hD rfl
                                  refine lv_iconst (v := 1) hx hb dX1_code_224 (by decide) ?_
                                  have hres : 1 = (mk_code (ro, sz, op, kd, tk, la, li, bt, mn) x1).1 := by
                                    subst eg180 eg179 eg163 et162 et156 eg155 et154 et153 et150 eg149 et148 et147 et144 eg143 et142 et141
                                    first | rfl | (simp only [mk_code, mk_c3, mk_cm, mk_sb, mk_by1, mk_by2, mk_by3, mk_by4, mk_c4, mk_rem, if_neg c1, if_neg c2, if_neg c3, if_pos c135, if_pos c136, if_pos c137, if_pos c138, if_neg (not_not_intro c164)]; done) | (simp [mk_code, mk_c3, mk_cm, mk_sb, mk_by1, mk_by2, mk_by3, mk_by4, mk_c4, mk_rem, if_neg c1, if_neg c2, if_neg c3, if_pos c135, if_pos c136, if_pos c137, if_pos c138, if_neg (not_not_intro c164)]; done)
                                  have hre2 : (ro, sz, op, kd, tk, la, li, g180, 2) = (mk_code (ro, sz, op, kd, tk, la, li, bt, mn) x1).2 := by
                                    subst eg180 eg179 eg163 et162 et156 eg155 et154 et153 et150 eg149 et148 et147 et144 eg143 et142 et141
                                    first | rfl | (simp only [mk_code, mk_c3, mk_cm, mk_sb, mk_by1, mk_by2, mk_by3, mk_by4, mk_c4, mk_rem, if_neg c1, if_neg c2, if_neg c3, if_pos c135, if_pos c136, if_pos c137, if_pos c138, if_neg (not_not_intro c164)]; done) | (simp [mk_code, mk_c3, mk_cm, mk_sb, mk_by1, mk_by2, mk_by3, mk_by4, mk_c4, mk_rem, if_neg c1, if_neg c2, if_neg c3, if_pos c135, if_pos c136, if_pos c137, if_pos c138, if_neg (not_not_intro c164)]; done)
                                  exact W.zret (v := 1) (ty := .boolean) hx hb hr rfl (fun t ht hW => ⟨⟨1, (ro, sz, op, kd, tk, la, li, g180, 2), rfl, ⟨hres, hre2⟩, by show va_P D vwCl _ t.heap; rw [ht]; exact hP⟩, hS.F ht⟩) hS.2.2 dX1_code_225
                            · exact absurd c161 (by decide)
                          · exact absurd c160 (by decide)
                        · exact absurd c159 (by decide)
                      · exact absurd c158 (by decide)
              · refine lv_iconst (v := 3) hx hb dX1_code_53 (by decide) ?_
                refine lv_goto (tgt := 58) hx hb dX1_code_54 (by decide) ?_
                refine va_put (D := D) (ci := 1) (v := .int 3) (ty := .int) (C := RX1) (T := TX1) (N := 9) hx hb hts hin tyX1 tyX1_ok nmX1 hown hK hP hD hS 0 rfl rfl 8 (by decide) lk33 (fun _ h9 => h9) rfl (by decide +kernel) rfl rfl (Nat.le_of_ble_eq_true rfl) dX1_code_58 (fun H locs hP hD hS => ?_)
                have hP : va_P D vwCl (mkW cR cY m0 m1 m2 (ro, sz, op, kd, tk, la, li, bt, 3)) H := hP
                have hD : va_D A (mkW cR cY m0 m1 m2 (ro, sz, op, kd, tk, la, li, bt, 3)) := hD
                refine lv_iload_n hx hb dX1_code_61 rfl (lv_at hl 1 rfl) ?_
                refine lv_istore_n (lv' := [(2, .int x1), (0, .ref m0), (1, .int x1)]) hx hb dX1_code_62 rfl hl (by decide) rfl (fun ls hl => ?_)
                refine lv_aload_n hx hb dX1_code_63 rfl (lv_at hl 1 rfl) ?_
                refine va_get (D := D) (ci := 1) (v := .int 3) (C := RX1) (T := TX1) (N := 9) hx hb hts hin hown hK hP 0 rfl rfl 8 (by decide) lk33 (fun _ h9 => h9) rfl dX1_code_64 ?_
                refine lv_iconst (v := 1) hx hb dX1_code_67 (by decide) ?_
                refine lv_isub hx hb dX1_code_68 ?_
                refine lv_topi (fun t181 et181 => ?_)
                obtain rfl : t181 = 2 := by rw [et181]; decide
                refine lv_istore_n (lv' := [(3, .int 2), (2, .int x1), (0, .ref m0), (1, .int x1)]) hx hb dX1_code_69 rfl hl (by decide) rfl (fun ls hl => ?_)
                refine lv_iload_n hx hb dX1_code_70 rfl (lv_at hl 0 rfl) ?_
                refine lv_if_le (tgt := 99) hx hb dX1_code_71 (by decide) (fun c182 => ?_) (fun c182 => ?_)
                · exact absurd c182 (by decide)
                · refine lv_aload_n hx hb dX1_code_74 rfl (lv_at hl 2 rfl) ?_
                  refine va_get (D := D) (ci := 1) (v := .ref m2) (C := RX1) (T := TX1) (N := 9) hx hb hts hin hown hK hP 0 rfl rfl 7 (by decide) lk20 (fun _ h9 => h9) rfl dX1_code_75 ?_
                  refine lv_iload_n hx hb dX1_code_78 rfl (lv_at hl 0 rfl) ?_
                  refine lv_sipush (v := 128) hx hb dX1_code_79 (by decide) ?_
                  refine lv_iload_n hx hb dX1_code_82 rfl (lv_at hl 1 rfl) ?_
                  refine lv_bipush (v := 64) hx hb dX1_code_83 (by decide) ?_
                  refine lv_irem hx hb dX1_code_85 (by decide) ?_
                  refine lv_topi (fun t183 et183 => ?_)
                  refine lv_iadd hx hb dX1_code_86 ?_
                  refine lv_topi (fun t184 et184 => ?_)
                  refine va_iast hx hb hK hP hD hS 2 1 rfl rfl (show ¬ ((2 : Int32) < 0 ∨ 4 ≤ (2 : Int32).toNatClampNeg) from by decide) dX1_code_87 (fun H locs hP hD hS => ?_)
                  obtain ⟨g185, eg185⟩ : ∃ y : Nat → Int32, y = upd bt (2 : Int32).toNatClampNeg t184 := ⟨_, rfl⟩
                  have hP : va_P D vwCl (mkW cR cY m0 m1 m2 (ro, sz, op, kd, tk, la, li, g185, 3)) H := by rw [eg185]; exact hP
                  have hD : va_D A (mkW cR cY m0 m1 m2 (ro, sz, op, kd, tk, la, li, g185, 3)) := kk_D_same hD rfl
                  refine lv_iload_n hx hb dX1_code_88 rfl (lv_at hl 1 rfl) ?_
                  refine lv_bipush (v := 64) hx hb dX1_code_89 (by decide) ?_
                  refine lv_idiv hx hb dX1_code_91 (by decide) ?_
                  refine lv_topi (fun t186 et186 => ?_)
                  refine lv_istore_n (lv' := [(2, .int t186), (3, .int 2), (0, .ref m0), (1, .int x1)]) hx hb dX1_code_92 rfl hl (by decide) rfl (fun ls hl => ?_)
                  refine lv_iinc (v := 1) (lv' := [(3, .int 1), (2, .int t186), (0, .ref m0), (1, .int x1)]) hx hb dX1_code_93 hl (k := 1) rfl (by decide) (by decide) rfl (fun ls hl => ?_)
                  refine lv_goto (tgt := 70) hx hb dX1_code_96 (by decide) ?_
                  refine lv_iload_n hx hb dX1_code_70 rfl (lv_at hl 0 rfl) ?_
                  refine lv_if_le (tgt := 99) hx hb dX1_code_71 (by decide) (fun c188 => ?_) (fun c188 => ?_)
                  · exact absurd c188 (by decide)
                  · refine lv_aload_n hx hb dX1_code_74 rfl (lv_at hl 2 rfl) ?_
                    refine va_get (D := D) (ci := 1) (v := .ref m2) (C := RX1) (T := TX1) (N := 9) hx hb hts hin hown hK hP 0 rfl rfl 7 (by decide) lk20 (fun _ h9 => h9) rfl dX1_code_75 ?_
                    refine lv_iload_n hx hb dX1_code_78 rfl (lv_at hl 0 rfl) ?_
                    refine lv_sipush (v := 128) hx hb dX1_code_79 (by decide) ?_
                    refine lv_iload_n hx hb dX1_code_82 rfl (lv_at hl 1 rfl) ?_
                    refine lv_bipush (v := 64) hx hb dX1_code_83 (by decide) ?_
                    refine lv_irem hx hb dX1_code_85 (by decide) ?_
                    refine lv_topi (fun t189 et189 => ?_)
                    refine lv_iadd hx hb dX1_code_86 ?_
                    refine lv_topi (fun t190 et190 => ?_)
                    refine va_iast hx hb hK hP hD hS 2 1 rfl rfl (show ¬ ((1 : Int32) < 0 ∨ 4 ≤ (1 : Int32).toNatClampNeg) from by decide) dX1_code_87 (fun H locs hP hD hS => ?_)
                    obtain ⟨g191, eg191⟩ : ∃ y : Nat → Int32, y = upd g185 (1 : Int32).toNatClampNeg t190 := ⟨_, rfl⟩
                    have hP : va_P D vwCl (mkW cR cY m0 m1 m2 (ro, sz, op, kd, tk, la, li, g191, 3)) H := by rw [eg191]; exact hP
                    have hD : va_D A (mkW cR cY m0 m1 m2 (ro, sz, op, kd, tk, la, li, g191, 3)) := kk_D_same hD rfl
                    refine lv_iload_n hx hb dX1_code_88 rfl (lv_at hl 1 rfl) ?_
                    refine lv_bipush (v := 64) hx hb dX1_code_89 (by decide) ?_
                    refine lv_idiv hx hb dX1_code_91 (by decide) ?_
                    refine lv_topi (fun t192 et192 => ?_)
                    refine lv_istore_n (lv' := [(2, .int t192), (3, .int 1), (0, .ref m0), (1, .int x1)]) hx hb dX1_code_92 rfl hl (by decide) rfl (fun ls hl => ?_)
                    refine lv_iinc (v := 0) (lv' := [(3, .int 0), (2, .int t192), (0, .ref m0), (1, .int x1)]) hx hb dX1_code_93 hl (k := 1) rfl (by decide) (by decide) rfl (fun ls hl => ?_)
                    refine lv_goto (tgt := 70) hx hb dX1_code_96 (by decide) ?_
                    refine lv_iload_n hx hb dX1_code_70 rfl (lv_at hl 0 rfl) ?_
                    refine lv_if_le (tgt := 99) hx hb dX1_code_71 (by decide) (fun c194 => ?_) (fun c194 => ?_)
                    · refine lv_aload_n hx hb dX1_code_99 rfl (lv_at hl 2 rfl) ?_
                      refine va_get (D := D) (ci := 1) (v := .ref m2) (C := RX1) (T := TX1) (N := 9) hx hb hts hin hown hK hP 0 rfl rfl 7 (by decide) lk20 (fun _ h9 => h9) rfl dX1_code_100 ?_
                      refine lv_iconst (v := 0) hx hb dX1_code_103 (by decide) ?_
                      refine lv_aload_n hx hb dX1_code_104 rfl (lv_at hl 2 rfl) ?_
                      refine va_get (D := D) (ci := 1) (v := .int 3) (C := RX1) (T := TX1) (N := 9) hx hb hts hin hown hK hP 0 rfl rfl 8 (by decide) lk33 (fun _ h9 => h9) rfl dX1_code_105 ?_
                      refine lv_iconst (v := 1) hx hb dX1_code_108 (by decide) ?_
                      refine lv_icmp_ne (tgt := 116) hx hb dX1_code_109 (by decide) (fun c195 => ?_) (fun c195 => ?_)
                      · refine lv_aload_n hx hb dX1_code_116 rfl (lv_at hl 2 rfl) ?_
                        refine va_get (D := D) (ci := 1) (v := .int 3) (C := RX1) (T := TX1) (N := 9) hx hb hts hin hown hK hP 0 rfl rfl 8 (by decide) lk33 (fun _ h9 => h9) rfl dX1_code_117 ?_
                        refine lv_iconst (v := 2) hx hb dX1_code_120 (by decide) ?_
                        refine lv_icmp_ne (tgt := 132) hx hb dX1_code_121 (by decide) (fun c196 => ?_) (fun c196 => ?_)
                        · refine lv_aload_n hx hb dX1_code_132 rfl (lv_at hl 2 rfl) ?_
                          refine va_get (D := D) (ci := 1) (v := .int 3) (C := RX1) (T := TX1) (N := 9) hx hb hts hin hown hK hP 0 rfl rfl 8 (by decide) lk33 (fun _ h9 => h9) rfl dX1_code_133 ?_
                          refine lv_iconst (v := 3) hx hb dX1_code_136 (by decide) ?_
                          refine lv_icmp_ne (tgt := 148) hx hb dX1_code_137 (by decide) (fun c197 => ?_) (fun c197 => ?_)
                          · exact absurd c197 (by decide)
                          · refine lv_sipush (v := 224) hx hb dX1_code_140 (by decide) ?_
                            refine lv_iload_n hx hb dX1_code_143 rfl (lv_at hl 1 rfl) ?_
                            refine lv_iadd hx hb dX1_code_144 ?_
                            refine lv_topi (fun t198 et198 => ?_)
                            refine lv_goto (tgt := 153) hx hb dX1_code_145 (by decide) ?_
                            refine va_iast hx hb hK hP hD hS 2 1 rfl rfl (show ¬ ((0 : Int32) < 0 ∨ 4 ≤ (0 : Int32).toNatClampNeg) from by decide) dX1_code_153 (fun H locs hP hD hS => ?_)
                            obtain ⟨g199, eg199⟩ : ∃ y : Nat → Int32, y = upd g191 (0 : Int32).toNatClampNeg t198 := ⟨_, rfl⟩
                            have hP : va_P D vwCl (mkW cR cY m0 m1 m2 (ro, sz, op, kd, tk, la, li, g199, 3)) H := by rw [eg199]; exact hP
                            have hD : va_D A (mkW cR cY m0 m1 m2 (ro, sz, op, kd, tk, la, li, g199, 3)) := kk_D_same hD rfl
                            refine lv_iload_n hx hb dX1_code_154 rfl (lv_at hl 3 rfl) ?_
                            refine lv_bipush (v := 92) hx hb dX1_code_155 (by decide) ?_
                            refine lv_icmp_ne (tgt := 165) hx hb dX1_code_157 (by decide) (fun c200 => ?_) (fun c200 => ?_)
                            · refine lv_iload_n hx hb dX1_code_165 rfl (lv_at hl 3 rfl) ?_
                              refine lv_bipush (v := 10) hx hb dX1_code_166 (by decide) ?_
                              refine lv_icmp_ne (tgt := 176) hx hb dX1_code_168 (by decide) (fun c201 => ?_) (fun c201 => ?_)
                              · refine lv_iload_n hx hb dX1_code_176 rfl (lv_at hl 3 rfl) ?_
                                refine lv_bipush (v := 9) hx hb dX1_code_177 (by decide) ?_
                                refine lv_icmp_ne (tgt := 187) hx hb dX1_code_179 (by decide) (fun c202 => ?_) (fun c202 => ?_)
                                · refine lv_iload_n hx hb dX1_code_187 rfl (lv_at hl 3 rfl) ?_
                                  refine lv_bipush (v := 13) hx hb dX1_code_188 (by decide) ?_
                                  refine lv_icmp_ne (tgt := 198) hx hb dX1_code_190 (by decide) (fun c203 => ?_) (fun c203 => ?_)
                                  · refine lv_iconst (v := 0) hx hb dX1_code_198 (by decide) ?_
                                    refine lv_istore_n (lv' := [(3, .int 0), (2, .int t192), (0, .ref m0), (1, .int x1)]) hx hb dX1_code_199 rfl hl (by decide) rfl (fun ls hl => ?_)
                                    refine lv_iload_n hx hb dX1_code_200 rfl (lv_at hl 0 rfl) ?_
                                    refine lv_if_le (tgt := 224) hx hb dX1_code_201 (by decide) (fun c204 => ?_) (fun c204 => ?_)
                                    · refine lv_iconst (v := 1) hx hb dX1_code_224 (by decide) ?_
                                      have hres : 1 = (mk_code (ro, sz, op, kd, tk, la, li, bt, mn) x1).1 := by
                                        subst eg199 et198 et192 eg191 et190 et189 et186 eg185 et184 et183
                                        first | rfl | (simp only [mk_code, mk_c3, mk_cm, mk_sb, mk_by1, mk_by2, mk_by3, mk_by4, mk_c4, mk_rem, if_neg c1, if_neg c2, if_neg c3, if_pos c135, if_pos c136, if_pos c137, if_neg c138, if_pos c200, if_pos c201, if_pos c202, if_pos c203]; done) | (simp [mk_code, mk_c3, mk_cm, mk_sb, mk_by1, mk_by2, mk_by3, mk_by4, mk_c4, mk_rem, if_neg c1, if_neg c2, if_neg c3, if_pos c135, if_pos c136, if_pos c137, if_neg c138, if_pos c200, if_pos c201, if_pos c202, if_pos c203]; done)
                                      have hre2 : (ro, sz, op, kd, tk, la, li, g199, 3) = (mk_code (ro, sz, op, kd, tk, la, li, bt, mn) x1).2 := by
                                        subst eg199 et198 et192 eg191 et190 et189 et186 eg185 et184 et183
                                        first | rfl | (simp only [mk_code, mk_c3, mk_cm, mk_sb, mk_by1, mk_by2, mk_by3, mk_by4, mk_c4, mk_rem, if_neg c1, if_neg c2, if_neg c3, if_pos c135, if_pos c136, if_pos c137, if_neg c138, if_pos c200, if_pos c201, if_pos c202, if_pos c203]; done) | (simp [mk_code, mk_c3, mk_cm, mk_sb, mk_by1, mk_by2, mk_by3, mk_by4, mk_c4, mk_rem, if_neg c1, if_neg c2, if_neg c3, if_pos c135, if_pos c136, if_pos c137, if_neg c138, if_pos c200, if_pos c201, if_pos c202, if_pos c203]; done)
                                      exact W.zret (v := 1) (ty := .boolean) hx hb hr rfl (fun t ht hW => ⟨⟨1, (ro, sz, op, kd, tk, la, li, g199, 3), rfl, ⟨hres, hre2⟩, by show va_P D vwCl _ t.heap; rw [ht]; exact hP⟩, hS.F ht⟩) hS.2.2 dX1_code_225
                                    · exact absurd c204 (by decide)
                                  · refine lv_bipush (v := 114) hx hb dX1_code_193 (by decide) ?_
                                    refine lv_goto (tgt := 199) hx hb dX1_code_195 (by decide) ?_
                                    refine lv_istore_n (lv' := [(3, .int 114), (2, .int t192), (0, .ref m0), (1, .int x1)]) hx hb dX1_code_199 rfl hl (by decide) rfl (fun ls hl => ?_)
                                    refine lv_iload_n hx hb dX1_code_200 rfl (lv_at hl 0 rfl) ?_
                                    refine lv_if_le (tgt := 224) hx hb dX1_code_201 (by decide) (fun c205 => ?_) (fun c205 => ?_)
                                    · exact absurd c205 (by decide)
                                    · refine lv_aload_n hx hb dX1_code_204 rfl (lv_at hl 2 rfl) ?_
                                      refine lv_iconst (v := 2) hx hb dX1_code_205 (by decide) ?_
                                      refine va_put (D := D) (ci := 1) (v := .int 2) (ty := .int) (C := RX1) (T := TX1) (N := 9) hx hb hts hin tyX1 tyX1_ok nmX1 hown hK hP hD hS 0 rfl rfl 8 (by decide) lk33 (fun _ h9 => h9) rfl (by decide +kernel) rfl rfl (Nat.le_of_ble_eq_true rfl) dX1_code_206 (fun H locs hP hD hS => ?_)
                                      have hP : va_P D vwCl (mkW cR cY m0 m1 m2 (ro, sz, op, kd, tk, la, li, g199, 2)) H := hP
                                      have hD : va_D A (mkW cR cY m0 m1 m2 (ro, sz, op, kd, tk, la, li, g199, 2)) := hD
                                      refine lv_aload_n hx hb dX1_code_209 rfl (lv_at hl 2 rfl) ?_
                                      refine va_get (D := D) (ci := 1) (v := .ref m2) (C := RX1) (T := TX1) (N := 9) hx hb hts hin hown hK hP 0 rfl rfl 7 (by decide) lk20 (fun _ h9 => h9) rfl dX1_code_210 ?_
                                      refine lv_iconst (v := 0) hx hb dX1_code_213 (by decide) ?_
                                      refine lv_bipush (v := 92) hx hb dX1_code_214 (by decide) ?_
                                      refine va_iast hx hb hK hP hD hS 2 1 rfl rfl (show ¬ ((0 : Int32) < 0 ∨ 4 ≤ (0 : Int32).toNatClampNeg) from by decide) dX1_code_216 (fun H locs hP hD hS => ?_)
                                      obtain ⟨g206, eg206⟩ : ∃ y : Nat → Int32, y = upd g199 (0 : Int32).toNatClampNeg (92 : Int32) := ⟨_, rfl⟩
                                      have hP : va_P D vwCl (mkW cR cY m0 m1 m2 (ro, sz, op, kd, tk, la, li, g206, 2)) H := by rw [eg206]; exact hP
                                      have hD : va_D A (mkW cR cY m0 m1 m2 (ro, sz, op, kd, tk, la, li, g206, 2)) := kk_D_same hD rfl
                                      refine lv_aload_n hx hb dX1_code_217 rfl (lv_at hl 2 rfl) ?_
                                      refine va_get (D := D) (ci := 1) (v := .ref m2) (C := RX1) (T := TX1) (N := 9) hx hb hts hin hown hK hP 0 rfl rfl 7 (by decide) lk20 (fun _ h9 => h9) rfl dX1_code_218 ?_
                                      refine lv_iconst (v := 1) hx hb dX1_code_221 (by decide) ?_
                                      refine lv_iload_n hx hb dX1_code_222 rfl (lv_at hl 0 rfl) ?_
                                      refine va_iast hx hb hK hP hD hS 2 1 rfl rfl (show ¬ ((1 : Int32) < 0 ∨ 4 ≤ (1 : Int32).toNatClampNeg) from by decide) dX1_code_223 (fun H locs hP hD hS => ?_)
                                      obtain ⟨g207, eg207⟩ : ∃ y : Nat → Int32, y = upd g206 (1 : Int32).toNatClampNeg (114 : Int32) := ⟨_, rfl⟩
                                      have hP : va_P D vwCl (mkW cR cY m0 m1 m2 (ro, sz, op, kd, tk, la, li, g207, 2)) H := by rw [eg207]; exact hP
                                      have hD : va_D A (mkW cR cY m0 m1 m2 (ro, sz, op, kd, tk, la, li, g207, 2)) := kk_D_same hD rfl
                                      refine lv_iconst (v := 1) hx hb dX1_code_224 (by decide) ?_
                                      have hres : 1 = (mk_code (ro, sz, op, kd, tk, la, li, bt, mn) x1).1 := by
                                        subst eg207 eg206 eg199 et198 et192 eg191 et190 et189 et186 eg185 et184 et183
                                        first | rfl | (simp only [mk_code, mk_c3, mk_cm, mk_sb, mk_by1, mk_by2, mk_by3, mk_by4, mk_c4, mk_rem, if_neg c1, if_neg c2, if_neg c3, if_pos c135, if_pos c136, if_pos c137, if_neg c138, if_pos c200, if_pos c201, if_pos c202, if_neg (not_not_intro c203)]; done) | (simp [mk_code, mk_c3, mk_cm, mk_sb, mk_by1, mk_by2, mk_by3, mk_by4, mk_c4, mk_rem, if_neg c1, if_neg c2, if_neg c3, if_pos c135, if_pos c136, if_pos c137, if_neg c138, if_pos c200, if_pos c201, if_pos c202, if_neg (not_not_intro c203)]; done)
                                      have hre2 : (ro, sz, op, kd, tk, la, li, g207, 2) = (mk_code (ro, sz, op, kd, tk, la, li, bt, mn) x1).2 := by
                                        subst eg207 eg206 eg199 et198 et192 eg191 et190 et189 et186 eg185 et184 et183
                                        first | rfl | (simp only [mk_code, mk_c3, mk_cm, mk_sb, mk_by1, mk_by2, mk_by3, mk_by4, mk_c4, mk_rem, if_neg c1, if_neg c2, if_neg c3, if_pos c135, if_pos c136, if_pos c137, if_neg c138, if_pos c200, if_pos c201, if_pos c202, if_neg (not_not_intro c203)]; done) | (simp [mk_code, mk_c3, mk_cm, mk_sb, mk_by1, mk_by2, mk_by3, mk_by4, mk_c4, mk_rem, if_neg c1, if_neg c2, if_neg c3, if_pos c135, if_pos c136, if_pos c137, if_neg c138, if_pos c200, if_pos c201, if_pos c202, if_neg (not_not_intro c203)]; done)
                                      exact W.zret (v := 1) (ty := .boolean) hx hb hr rfl (fun t ht hW => ⟨⟨1, (ro, sz, op, kd, tk, la, li, g207, 2), rfl, ⟨hres, hre2⟩, by show va_P D vwCl _ t.heap; rw [ht]; exact hP⟩, hS.F ht⟩) hS.2.2 dX1_code_225
                                · refine lv_bipush (v := 116) hx hb dX1_code_182 (by decide) ?_
                                  refine lv_goto (tgt := 199) hx hb dX1_code_184 (by decide) ?_
                                  refine lv_istore_n (lv' := [(3, .int 116), (2, .int t192), (0, .ref m0), (1, .int x1)]) hx hb dX1_code_199 rfl hl (by decide) rfl (fun ls hl => ?_)
                                  refine lv_iload_n hx hb dX1_code_200 rfl (lv_at hl 0 rfl) ?_
                                  refine lv_if_le (tgt := 224) hx hb dX1_code_201 (by decide) (fun c208 => ?_) (fun c208 => ?_)
                                  · exact absurd c208 (by decide)
                                  · refine lv_aload_n hx hb dX1_code_204 rfl (lv_at hl 2 rfl) ?_
                                    refine lv_iconst (v := 2) hx hb dX1_code_205 (by decide) ?_
                                    refine va_put (D := D) (ci := 1) (v := .int 2) (ty := .int) (C := RX1) (T := TX1) (N := 9) hx hb hts hin tyX1 tyX1_ok nmX1 hown hK hP hD hS 0 rfl rfl 8 (by decide) lk33 (fun _ h9 => h9) rfl (by decide +kernel) rfl rfl (Nat.le_of_ble_eq_true rfl) dX1_code_206 (fun H locs hP hD hS => ?_)
                                    have hP : va_P D vwCl (mkW cR cY m0 m1 m2 (ro, sz, op, kd, tk, la, li, g199, 2)) H := hP
                                    have hD : va_D A (mkW cR cY m0 m1 m2 (ro, sz, op, kd, tk, la, li, g199, 2)) := hD
                                    refine lv_aload_n hx hb dX1_code_209 rfl (lv_at hl 2 rfl) ?_
                                    refine va_get (D := D) (ci := 1) (v := .ref m2) (C := RX1) (T := TX1) (N := 9) hx hb hts hin hown hK hP 0 rfl rfl 7 (by decide) lk20 (fun _ h9 => h9) rfl dX1_code_210 ?_
                                    refine lv_iconst (v := 0) hx hb dX1_code_213 (by decide) ?_
                                    refine lv_bipush (v := 92) hx hb dX1_code_214 (by decide) ?_
                                    refine va_iast hx hb hK hP hD hS 2 1 rfl rfl (show ¬ ((0 : Int32) < 0 ∨ 4 ≤ (0 : Int32).toNatClampNeg) from by decide) dX1_code_216 (fun H locs hP hD hS => ?_)
                                    obtain ⟨g209, eg209⟩ : ∃ y : Nat → Int32, y = upd g199 (0 : Int32).toNatClampNeg (92 : Int32) := ⟨_, rfl⟩
                                    have hP : va_P D vwCl (mkW cR cY m0 m1 m2 (ro, sz, op, kd, tk, la, li, g209, 2)) H := by rw [eg209]; exact hP
                                    have hD : va_D A (mkW cR cY m0 m1 m2 (ro, sz, op, kd, tk, la, li, g209, 2)) := kk_D_same hD rfl
                                    refine lv_aload_n hx hb dX1_code_217 rfl (lv_at hl 2 rfl) ?_
                                    refine va_get (D := D) (ci := 1) (v := .ref m2) (C := RX1) (T := TX1) (N := 9) hx hb hts hin hown hK hP 0 rfl rfl 7 (by decide) lk20 (fun _ h9 => h9) rfl dX1_code_218 ?_
                                    refine lv_iconst (v := 1) hx hb dX1_code_221 (by decide) ?_
                                    refine lv_iload_n hx hb dX1_code_222 rfl (lv_at hl 0 rfl) ?_
                                    refine va_iast hx hb hK hP hD hS 2 1 rfl rfl (show ¬ ((1 : Int32) < 0 ∨ 4 ≤ (1 : Int32).toNatClampNeg) from by decide) dX1_code_223 (fun H locs hP hD hS => ?_)
                                    obtain ⟨g210, eg210⟩ : ∃ y : Nat → Int32, y = upd g209 (1 : Int32).toNatClampNeg (116 : Int32) := ⟨_, rfl⟩
                                    have hP : va_P D vwCl (mkW cR cY m0 m1 m2 (ro, sz, op, kd, tk, la, li, g210, 2)) H := by rw [eg210]; exact hP
                                    have hD : va_D A (mkW cR cY m0 m1 m2 (ro, sz, op, kd, tk, la, li, g210, 2)) := kk_D_same hD rfl
                                    refine lv_iconst (v := 1) hx hb dX1_code_224 (by decide) ?_
                                    have hres : 1 = (mk_code (ro, sz, op, kd, tk, la, li, bt, mn) x1).1 := by
                                      subst eg210 eg209 eg199 et198 et192 eg191 et190 et189 et186 eg185 et184 et183
                                      first | rfl | (simp only [mk_code, mk_c3, mk_cm, mk_sb, mk_by1, mk_by2, mk_by3, mk_by4, mk_c4, mk_rem, if_neg c1, if_neg c2, if_neg c3, if_pos c135, if_pos c136, if_pos c137, if_neg c138, if_pos c200, if_pos c201, if_neg (not_not_intro c202)]; done) | (simp [mk_code, mk_c3, mk_cm, mk_sb, mk_by1, mk_by2, mk_by3, mk_by4, mk_c4, mk_rem, if_neg c1, if_neg c2, if_neg c3, if_pos c135, if_pos c136, if_pos c137, if_neg c138, if_pos c200, if_pos c201, if_neg (not_not_intro c202)]; done)
                                    have hre2 : (ro, sz, op, kd, tk, la, li, g210, 2) = (mk_code (ro, sz, op, kd, tk, la, li, bt, mn) x1).2 := by
                                      subst eg210 eg209 eg199 et198 et192 eg191 et190 et189 et186 eg185 et184 et183
                                      first | rfl | (simp only [mk_code, mk_c3, mk_cm, mk_sb, mk_by1, mk_by2, mk_by3, mk_by4, mk_c4, mk_rem, if_neg c1, if_neg c2, if_neg c3, if_pos c135, if_pos c136, if_pos c137, if_neg c138, if_pos c200, if_pos c201, if_neg (not_not_intro c202)]; done) | (simp [mk_code, mk_c3, mk_cm, mk_sb, mk_by1, mk_by2, mk_by3, mk_by4, mk_c4, mk_rem, if_neg c1, if_neg c2, if_neg c3, if_pos c135, if_pos c136, if_pos c137, if_neg c138, if_pos c200, if_pos c201, if_neg (not_not_intro c202)]; done)
                                    exact W.zret (v := 1) (ty := .boolean) hx hb hr rfl (fun t ht hW => ⟨⟨1, (ro, sz, op, kd, tk, la, li, g210, 2), rfl, ⟨hres, hre2⟩, by show va_P D vwCl _ t.heap; rw [ht]; exact hP⟩, hS.F ht⟩) hS.2.2 dX1_code_225
                              · refine lv_bipush (v := 110) hx hb dX1_code_171 (by decide) ?_
                                refine lv_goto (tgt := 199) hx hb dX1_code_173 (by decide) ?_
                                refine lv_istore_n (lv' := [(3, .int 110), (2, .int t192), (0, .ref m0), (1, .int x1)]) hx hb dX1_code_199 rfl hl (by decide) rfl (fun ls hl => ?_)
                                refine lv_iload_n hx hb dX1_code_200 rfl (lv_at hl 0 rfl) ?_
                                refine lv_if_le (tgt := 224) hx hb dX1_code_201 (by decide) (fun c211 => ?_) (fun c211 => ?_)
                                · exact absurd c211 (by decide)
                                · refine lv_aload_n hx hb dX1_code_204 rfl (lv_at hl 2 rfl) ?_
                                  refine lv_iconst (v := 2) hx hb dX1_code_205 (by decide) ?_
                                  refine va_put (D := D) (ci := 1) (v := .int 2) (ty := .int) (C := RX1) (T := TX1) (N := 9) hx hb hts hin tyX1 tyX1_ok nmX1 hown hK hP hD hS 0 rfl rfl 8 (by decide) lk33 (fun _ h9 => h9) rfl (by decide +kernel) rfl rfl (Nat.le_of_ble_eq_true rfl) dX1_code_206 (fun H locs hP hD hS => ?_)
                                  have hP : va_P D vwCl (mkW cR cY m0 m1 m2 (ro, sz, op, kd, tk, la, li, g199, 2)) H := hP
                                  have hD : va_D A (mkW cR cY m0 m1 m2 (ro, sz, op, kd, tk, la, li, g199, 2)) := hD
                                  refine lv_aload_n hx hb dX1_code_209 rfl (lv_at hl 2 rfl) ?_
                                  refine va_get (D := D) (ci := 1) (v := .ref m2) (C := RX1) (T := TX1) (N := 9) hx hb hts hin hown hK hP 0 rfl rfl 7 (by decide) lk20 (fun _ h9 => h9) rfl dX1_code_210 ?_
                                  refine lv_iconst (v := 0) hx hb dX1_code_213 (by decide) ?_
                                  refine lv_bipush (v := 92) hx hb dX1_code_214 (by decide) ?_
                                  refine va_iast hx hb hK hP hD hS 2 1 rfl rfl (show ¬ ((0 : Int32) < 0 ∨ 4 ≤ (0 : Int32).toNatClampNeg) from by decide) dX1_code_216 (fun H locs hP hD hS => ?_)
                                  obtain ⟨g212, eg212⟩ : ∃ y : Nat → Int32, y = upd g199 (0 : Int32).toNatClampNeg (92 : Int32) := ⟨_, rfl⟩
                                  have hP : va_P D vwCl (mkW cR cY m0 m1 m2 (ro, sz, op, kd, tk, la, li, g212, 2)) H := by rw [eg212]; exact hP
                                  have hD : va_D A (mkW cR cY m0 m1 m2 (ro, sz, op, kd, tk, la, li, g212, 2)) := kk_D_same hD rfl
                                  refine lv_aload_n hx hb dX1_code_217 rfl (lv_at hl 2 rfl) ?_
                                  refine va_get (D := D) (ci := 1) (v := .ref m2) (C := RX1) (T := TX1) (N := 9) hx hb hts hin hown hK hP 0 rfl rfl 7 (by decide) lk20 (fun _ h9 => h9) rfl dX1_code_218 ?_
                                  refine lv_iconst (v := 1) hx hb dX1_code_221 (by decide) ?_
                                  refine lv_iload_n hx hb dX1_code_222 rfl (lv_at hl 0 rfl) ?_
                                  refine va_iast hx hb hK hP hD hS 2 1 rfl rfl (show ¬ ((1 : Int32) < 0 ∨ 4 ≤ (1 : Int32).toNatClampNeg) from by decide) dX1_code_223 (fun H locs hP hD hS => ?_)
                                  obtain ⟨g213, eg213⟩ : ∃ y : Nat → Int32, y = upd g212 (1 : Int32).toNatClampNeg (110 : Int32) := ⟨_, rfl⟩
                                  have hP : va_P D vwCl (mkW cR cY m0 m1 m2 (ro, sz, op, kd, tk, la, li, g213, 2)) H := by rw [eg213]; exact hP
                                  have hD : va_D A (mkW cR cY m0 m1 m2 (ro, sz, op, kd, tk, la, li, g213, 2)) := kk_D_same hD rfl
                                  refine lv_iconst (v := 1) hx hb dX1_code_224 (by decide) ?_
                                  have hres : 1 = (mk_code (ro, sz, op, kd, tk, la, li, bt, mn) x1).1 := by
                                    subst eg213 eg212 eg199 et198 et192 eg191 et190 et189 et186 eg185 et184 et183
                                    first | rfl | (simp only [mk_code, mk_c3, mk_cm, mk_sb, mk_by1, mk_by2, mk_by3, mk_by4, mk_c4, mk_rem, if_neg c1, if_neg c2, if_neg c3, if_pos c135, if_pos c136, if_pos c137, if_neg c138, if_pos c200, if_neg (not_not_intro c201)]; done) | (simp [mk_code, mk_c3, mk_cm, mk_sb, mk_by1, mk_by2, mk_by3, mk_by4, mk_c4, mk_rem, if_neg c1, if_neg c2, if_neg c3, if_pos c135, if_pos c136, if_pos c137, if_neg c138, if_pos c200, if_neg (not_not_intro c201)]; done)
                                  have hre2 : (ro, sz, op, kd, tk, la, li, g213, 2) = (mk_code (ro, sz, op, kd, tk, la, li, bt, mn) x1).2 := by
                                    subst eg213 eg212 eg199 et198 et192 eg191 et190 et189 et186 eg185 et184 et183
                                    first | rfl | (simp only [mk_code, mk_c3, mk_cm, mk_sb, mk_by1, mk_by2, mk_by3, mk_by4, mk_c4, mk_rem, if_neg c1, if_neg c2, if_neg c3, if_pos c135, if_pos c136, if_pos c137, if_neg c138, if_pos c200, if_neg (not_not_intro c201)]; done) | (simp [mk_code, mk_c3, mk_cm, mk_sb, mk_by1, mk_by2, mk_by3, mk_by4, mk_c4, mk_rem, if_neg c1, if_neg c2, if_neg c3, if_pos c135, if_pos c136, if_pos c137, if_neg c138, if_pos c200, if_neg (not_not_intro c201)]; done)
                                  exact W.zret (v := 1) (ty := .boolean) hx hb hr rfl (fun t ht hW => ⟨⟨1, (ro, sz, op, kd, tk, la, li, g213, 2), rfl, ⟨hres, hre2⟩, by show va_P D vwCl _ t.heap; rw [ht]; exact hP⟩, hS.F ht⟩) hS.2.2 dX1_code_225
                            · refine lv_bipush (v := 92) hx hb dX1_code_160 (by decide) ?_
                              refine lv_goto (tgt := 199) hx hb dX1_code_162 (by decide) ?_
                              refine lv_istore_n (lv' := [(3, .int 92), (2, .int t192), (0, .ref m0), (1, .int x1)]) hx hb dX1_code_199 rfl hl (by decide) rfl (fun ls hl => ?_)
                              refine lv_iload_n hx hb dX1_code_200 rfl (lv_at hl 0 rfl) ?_
                              refine lv_if_le (tgt := 224) hx hb dX1_code_201 (by decide) (fun c214 => ?_) (fun c214 => ?_)
                              · exact absurd c214 (by decide)
                              · refine lv_aload_n hx hb dX1_code_204 rfl (lv_at hl 2 rfl) ?_
                                refine lv_iconst (v := 2) hx hb dX1_code_205 (by decide) ?_
                                refine va_put (D := D) (ci := 1) (v := .int 2) (ty := .int) (C := RX1) (T := TX1) (N := 9) hx hb hts hin tyX1 tyX1_ok nmX1 hown hK hP hD hS 0 rfl rfl 8 (by decide) lk33 (fun _ h9 => h9) rfl (by decide +kernel) rfl rfl (Nat.le_of_ble_eq_true rfl) dX1_code_206 (fun H locs hP hD hS => ?_)
                                have hP : va_P D vwCl (mkW cR cY m0 m1 m2 (ro, sz, op, kd, tk, la, li, g199, 2)) H := hP
                                have hD : va_D A (mkW cR cY m0 m1 m2 (ro, sz, op, kd, tk, la, li, g199, 2)) := hD
                                refine lv_aload_n hx hb dX1_code_209 rfl (lv_at hl 2 rfl) ?_
                                refine va_get (D := D) (ci := 1) (v := .ref m2) (C := RX1) (T := TX1) (N := 9) hx hb hts hin hown hK hP 0 rfl rfl 7 (by decide) lk20 (fun _ h9 => h9) rfl dX1_code_210 ?_
                                refine lv_iconst (v := 0) hx hb dX1_code_213 (by decide) ?_
                                refine lv_bipush (v := 92) hx hb dX1_code_214 (by decide) ?_
                                refine va_iast hx hb hK hP hD hS 2 1 rfl rfl (show ¬ ((0 : Int32) < 0 ∨ 4 ≤ (0 : Int32).toNatClampNeg) from by decide) dX1_code_216 (fun H locs hP hD hS => ?_)
                                obtain ⟨g215, eg215⟩ : ∃ y : Nat → Int32, y = upd g199 (0 : Int32).toNatClampNeg (92 : Int32) := ⟨_, rfl⟩
                                have hP : va_P D vwCl (mkW cR cY m0 m1 m2 (ro, sz, op, kd, tk, la, li, g215, 2)) H := by rw [eg215]; exact hP
                                have hD : va_D A (mkW cR cY m0 m1 m2 (ro, sz, op, kd, tk, la, li, g215, 2)) := kk_D_same hD rfl
                                refine lv_aload_n hx hb dX1_code_217 rfl (lv_at hl 2 rfl) ?_
                                refine va_get (D := D) (ci := 1) (v := .ref m2) (C := RX1) (T := TX1) (N := 9) hx hb hts hin hown hK hP 0 rfl rfl 7 (by decide) lk20 (fun _ h9 => h9) rfl dX1_code_218 ?_
                                refine lv_iconst (v := 1) hx hb dX1_code_221 (by decide) ?_
                                refine lv_iload_n hx hb dX1_code_222 rfl (lv_at hl 0 rfl) ?_
                                refine va_iast hx hb hK hP hD hS 2 1 rfl rfl (show ¬ ((1 : Int32) < 0 ∨ 4 ≤ (1 : Int32).toNatClampNeg) from by decide) dX1_code_223 (fun H locs hP hD hS => ?_)
                                obtain ⟨g216, eg216⟩ : ∃ y : Nat → Int32, y = upd g215 (1 : Int32).toNatClampNeg (92 : Int32) := ⟨_, rfl⟩
                                have hP : va_P D vwCl (mkW cR cY m0 m1 m2 (ro, sz, op, kd, tk, la, li, g216, 2)) H := by rw [eg216]; exact hP
                                have hD : va_D A (mkW cR cY m0 m1 m2 (ro, sz, op, kd, tk, la, li, g216, 2)) := kk_D_same hD rfl
                                refine lv_iconst (v := 1) hx hb dX1_code_224 (by decide) ?_
                                have hres : 1 = (mk_code (ro, sz, op, kd, tk, la, li, bt, mn) x1).1 := by
                                  subst eg216 eg215 eg199 et198 et192 eg191 et190 et189 et186 eg185 et184 et183
                                  first | rfl | (simp only [mk_code, mk_c3, mk_cm, mk_sb, mk_by1, mk_by2, mk_by3, mk_by4, mk_c4, mk_rem, if_neg c1, if_neg c2, if_neg c3, if_pos c135, if_pos c136, if_pos c137, if_neg c138, if_neg (not_not_intro c200)]; done) | (simp [mk_code, mk_c3, mk_cm, mk_sb, mk_by1, mk_by2, mk_by3, mk_by4, mk_c4, mk_rem, if_neg c1, if_neg c2, if_neg c3, if_pos c135, if_pos c136, if_pos c137, if_neg c138, if_neg (not_not_intro c200)]; done)
                                have hre2 : (ro, sz, op, kd, tk, la, li, g216, 2) = (mk_code (ro, sz, op, kd, tk, la, li, bt, mn) x1).2 := by
                                  subst eg216 eg215 eg199 et198 et192 eg191 et190 et189 et186 eg185 et184 et183
                                  first | rfl | (simp only [mk_code, mk_c3, mk_cm, mk_sb, mk_by1, mk_by2, mk_by3, mk_by4, mk_c4, mk_rem, if_neg c1, if_neg c2, if_neg c3, if_pos c135, if_pos c136, if_pos c137, if_neg c138, if_neg (not_not_intro c200)]; done) | (simp [mk_code, mk_c3, mk_cm, mk_sb, mk_by1, mk_by2, mk_by3, mk_by4, mk_c4, mk_rem, if_neg c1, if_neg c2, if_neg c3, if_pos c135, if_pos c136, if_pos c137, if_neg c138, if_neg (not_not_intro c200)]; done)
                                exact W.zret (v := 1) (ty := .boolean) hx hb hr rfl (fun t ht hW => ⟨⟨1, (ro, sz, op, kd, tk, la, li, g216, 2), rfl, ⟨hres, hre2⟩, by show va_P D vwCl _ t.heap; rw [ht]; exact hP⟩, hS.F ht⟩) hS.2.2 dX1_code_225
                        · exact absurd c196 (by decide)
                      · exact absurd c195 (by decide)
                    · exact absurd c194 (by decide)
            · refine lv_iconst (v := 2) hx hb dX1_code_43 (by decide) ?_
              refine lv_goto (tgt := 58) hx hb dX1_code_44 (by decide) ?_
              refine va_put (D := D) (ci := 1) (v := .int 2) (ty := .int) (C := RX1) (T := TX1) (N := 9) hx hb hts hin tyX1 tyX1_ok nmX1 hown hK hP hD hS 0 rfl rfl 8 (by decide) lk33 (fun _ h9 => h9) rfl (by decide +kernel) rfl rfl (Nat.le_of_ble_eq_true rfl) dX1_code_58 (fun H locs hP hD hS => ?_)
              have hP : va_P D vwCl (mkW cR cY m0 m1 m2 (ro, sz, op, kd, tk, la, li, bt, 2)) H := hP
              have hD : va_D A (mkW cR cY m0 m1 m2 (ro, sz, op, kd, tk, la, li, bt, 2)) := hD
              refine lv_iload_n hx hb dX1_code_61 rfl (lv_at hl 1 rfl) ?_
              refine lv_istore_n (lv' := [(2, .int x1), (0, .ref m0), (1, .int x1)]) hx hb dX1_code_62 rfl hl (by decide) rfl (fun ls hl => ?_)
              refine lv_aload_n hx hb dX1_code_63 rfl (lv_at hl 1 rfl) ?_
              refine va_get (D := D) (ci := 1) (v := .int 2) (C := RX1) (T := TX1) (N := 9) hx hb hts hin hown hK hP 0 rfl rfl 8 (by decide) lk33 (fun _ h9 => h9) rfl dX1_code_64 ?_
              refine lv_iconst (v := 1) hx hb dX1_code_67 (by decide) ?_
              refine lv_isub hx hb dX1_code_68 ?_
              refine lv_topi (fun t217 et217 => ?_)
              obtain rfl : t217 = 1 := by rw [et217]; decide
              refine lv_istore_n (lv' := [(3, .int 1), (2, .int x1), (0, .ref m0), (1, .int x1)]) hx hb dX1_code_69 rfl hl (by decide) rfl (fun ls hl => ?_)
              refine lv_iload_n hx hb dX1_code_70 rfl (lv_at hl 0 rfl) ?_
              refine lv_if_le (tgt := 99) hx hb dX1_code_71 (by decide) (fun c218 => ?_) (fun c218 => ?_)
              · exact absurd c218 (by decide)
              · refine lv_aload_n hx hb dX1_code_74 rfl (lv_at hl 2 rfl) ?_
                refine va_get (D := D) (ci := 1) (v := .ref m2) (C := RX1) (T := TX1) (N := 9) hx hb hts hin hown hK hP 0 rfl rfl 7 (by decide) lk20 (fun _ h9 => h9) rfl dX1_code_75 ?_
                refine lv_iload_n hx hb dX1_code_78 rfl (lv_at hl 0 rfl) ?_
                refine lv_sipush (v := 128) hx hb dX1_code_79 (by decide) ?_
                refine lv_iload_n hx hb dX1_code_82 rfl (lv_at hl 1 rfl) ?_
                refine lv_bipush (v := 64) hx hb dX1_code_83 (by decide) ?_
                refine lv_irem hx hb dX1_code_85 (by decide) ?_
                refine lv_topi (fun t219 et219 => ?_)
                refine lv_iadd hx hb dX1_code_86 ?_
                refine lv_topi (fun t220 et220 => ?_)
                refine va_iast hx hb hK hP hD hS 2 1 rfl rfl (show ¬ ((1 : Int32) < 0 ∨ 4 ≤ (1 : Int32).toNatClampNeg) from by decide) dX1_code_87 (fun H locs hP hD hS => ?_)
                obtain ⟨g221, eg221⟩ : ∃ y : Nat → Int32, y = upd bt (1 : Int32).toNatClampNeg t220 := ⟨_, rfl⟩
                have hP : va_P D vwCl (mkW cR cY m0 m1 m2 (ro, sz, op, kd, tk, la, li, g221, 2)) H := by rw [eg221]; exact hP
                have hD : va_D A (mkW cR cY m0 m1 m2 (ro, sz, op, kd, tk, la, li, g221, 2)) := kk_D_same hD rfl
                refine lv_iload_n hx hb dX1_code_88 rfl (lv_at hl 1 rfl) ?_
                refine lv_bipush (v := 64) hx hb dX1_code_89 (by decide) ?_
                refine lv_idiv hx hb dX1_code_91 (by decide) ?_
                refine lv_topi (fun t222 et222 => ?_)
                refine lv_istore_n (lv' := [(2, .int t222), (3, .int 1), (0, .ref m0), (1, .int x1)]) hx hb dX1_code_92 rfl hl (by decide) rfl (fun ls hl => ?_)
                refine lv_iinc (v := 0) (lv' := [(3, .int 0), (2, .int t222), (0, .ref m0), (1, .int x1)]) hx hb dX1_code_93 hl (k := 1) rfl (by decide) (by decide) rfl (fun ls hl => ?_)
                refine lv_goto (tgt := 70) hx hb dX1_code_96 (by decide) ?_
                refine lv_iload_n hx hb dX1_code_70 rfl (lv_at hl 0 rfl) ?_
                refine lv_if_le (tgt := 99) hx hb dX1_code_71 (by decide) (fun c224 => ?_) (fun c224 => ?_)
                · refine lv_aload_n hx hb dX1_code_99 rfl (lv_at hl 2 rfl) ?_
                  refine va_get (D := D) (ci := 1) (v := .ref m2) (C := RX1) (T := TX1) (N := 9) hx hb hts hin hown hK hP 0 rfl rfl 7 (by decide) lk20 (fun _ h9 => h9) rfl dX1_code_100 ?_
                  refine lv_iconst (v := 0) hx hb dX1_code_103 (by decide) ?_
                  refine lv_aload_n hx hb dX1_code_104 rfl (lv_at hl 2 rfl) ?_
                  refine va_get (D := D) (ci := 1) (v := .int 2) (C := RX1) (T := TX1) (N := 9) hx hb hts hin hown hK hP 0 rfl rfl 8 (by decide) lk33 (fun _ h9 => h9) rfl dX1_code_105 ?_
                  refine lv_iconst (v := 1) hx hb dX1_code_108 (by decide) ?_
                  refine lv_icmp_ne (tgt := 116) hx hb dX1_code_109 (by decide) (fun c225 => ?_) (fun c225 => ?_)
                  · refine lv_aload_n hx hb dX1_code_116 rfl (lv_at hl 2 rfl) ?_
                    refine va_get (D := D) (ci := 1) (v := .int 2) (C := RX1) (T := TX1) (N := 9) hx hb hts hin hown hK hP 0 rfl rfl 8 (by decide) lk33 (fun _ h9 => h9) rfl dX1_code_117 ?_
                    refine lv_iconst (v := 2) hx hb dX1_code_120 (by decide) ?_
                    refine lv_icmp_ne (tgt := 132) hx hb dX1_code_121 (by decide) (fun c226 => ?_) (fun c226 => ?_)
                    · exact absurd c226 (by decide)
                    · refine lv_sipush (v := 192) hx hb dX1_code_124 (by decide) ?_
                      refine lv_iload_n hx hb dX1_code_127 rfl (lv_at hl 1 rfl) ?_
                      refine lv_iadd hx hb dX1_code_128 ?_
                      refine lv_topi (fun t227 et227 => ?_)
                      refine lv_goto (tgt := 153) hx hb dX1_code_129 (by decide) ?_
                      refine va_iast hx hb hK hP hD hS 2 1 rfl rfl (show ¬ ((0 : Int32) < 0 ∨ 4 ≤ (0 : Int32).toNatClampNeg) from by decide) dX1_code_153 (fun H locs hP hD hS => ?_)
                      obtain ⟨g228, eg228⟩ : ∃ y : Nat → Int32, y = upd g221 (0 : Int32).toNatClampNeg t227 := ⟨_, rfl⟩
                      have hP : va_P D vwCl (mkW cR cY m0 m1 m2 (ro, sz, op, kd, tk, la, li, g228, 2)) H := by rw [eg228]; exact hP
                      have hD : va_D A (mkW cR cY m0 m1 m2 (ro, sz, op, kd, tk, la, li, g228, 2)) := kk_D_same hD rfl
                      refine lv_iload_n hx hb dX1_code_154 rfl (lv_at hl 3 rfl) ?_
                      refine lv_bipush (v := 92) hx hb dX1_code_155 (by decide) ?_
                      refine lv_icmp_ne (tgt := 165) hx hb dX1_code_157 (by decide) (fun c229 => ?_) (fun c229 => ?_)
                      · refine lv_iload_n hx hb dX1_code_165 rfl (lv_at hl 3 rfl) ?_
                        refine lv_bipush (v := 10) hx hb dX1_code_166 (by decide) ?_
                        refine lv_icmp_ne (tgt := 176) hx hb dX1_code_168 (by decide) (fun c230 => ?_) (fun c230 => ?_)
                        · refine lv_iload_n hx hb dX1_code_176 rfl (lv_at hl 3 rfl) ?_
                          refine lv_bipush (v := 9) hx hb dX1_code_177 (by decide) ?_
                          refine lv_icmp_ne (tgt := 187) hx hb dX1_code_179 (by decide) (fun c231 => ?_) (fun c231 => ?_)
                          · refine lv_iload_n hx hb dX1_code_187 rfl (lv_at hl 3 rfl) ?_
                            refine lv_bipush (v := 13) hx hb dX1_code_188 (by decide) ?_
                            refine lv_icmp_ne (tgt := 198) hx hb dX1_code_190 (by decide) (fun c232 => ?_) (fun c232 => ?_)
                            · refine lv_iconst (v := 0) hx hb dX1_code_198 (by decide) ?_
                              refine lv_istore_n (lv' := [(3, .int 0), (2, .int t222), (0, .ref m0), (1, .int x1)]) hx hb dX1_code_199 rfl hl (by decide) rfl (fun ls hl => ?_)
                              refine lv_iload_n hx hb dX1_code_200 rfl (lv_at hl 0 rfl) ?_
                              refine lv_if_le (tgt := 224) hx hb dX1_code_201 (by decide) (fun c233 => ?_) (fun c233 => ?_)
                              · refine lv_iconst (v := 1) hx hb dX1_code_224 (by decide) ?_
                                have hres : 1 = (mk_code (ro, sz, op, kd, tk, la, li, bt, mn) x1).1 := by
                                  subst eg228 et227 et222 eg221 et220 et219
                                  first | rfl | (simp only [mk_code, mk_c3, mk_cm, mk_sb, mk_by1, mk_by2, mk_by3, mk_by4, mk_c4, mk_rem, if_neg c1, if_neg c2, if_neg c3, if_pos c135, if_pos c136, if_neg c137, if_pos c229, if_pos c230, if_pos c231, if_pos c232]; done) | (simp [mk_code, mk_c3, mk_cm, mk_sb, mk_by1, mk_by2, mk_by3, mk_by4, mk_c4, mk_rem, if_neg c1, if_neg c2, if_neg c3, if_pos c135, if_pos c136, if_neg c137, if_pos c229, if_pos c230, if_pos c231, if_pos c232]; done)
                                have hre2 : (ro, sz, op, kd, tk, la, li, g228, 2) = (mk_code (ro, sz, op, kd, tk, la, li, bt, mn) x1).2 := by
                                  subst eg228 et227 et222 eg221 et220 et219
                                  first | rfl | (simp only [mk_code, mk_c3, mk_cm, mk_sb, mk_by1, mk_by2, mk_by3, mk_by4, mk_c4, mk_rem, if_neg c1, if_neg c2, if_neg c3, if_pos c135, if_pos c136, if_neg c137, if_pos c229, if_pos c230, if_pos c231, if_pos c232]; done) | (simp [mk_code, mk_c3, mk_cm, mk_sb, mk_by1, mk_by2, mk_by3, mk_by4, mk_c4, mk_rem, if_neg c1, if_neg c2, if_neg c3, if_pos c135, if_pos c136, if_neg c137, if_pos c229, if_pos c230, if_pos c231, if_pos c232]; done)
                                exact W.zret (v := 1) (ty := .boolean) hx hb hr rfl (fun t ht hW => ⟨⟨1, (ro, sz, op, kd, tk, la, li, g228, 2), rfl, ⟨hres, hre2⟩, by show va_P D vwCl _ t.heap; rw [ht]; exact hP⟩, hS.F ht⟩) hS.2.2 dX1_code_225
                              · exact absurd c233 (by decide)
                            · refine lv_bipush (v := 114) hx hb dX1_code_193 (by decide) ?_
                              refine lv_goto (tgt := 199) hx hb dX1_code_195 (by decide) ?_
                              refine lv_istore_n (lv' := [(3, .int 114), (2, .int t222), (0, .ref m0), (1, .int x1)]) hx hb dX1_code_199 rfl hl (by decide) rfl (fun ls hl => ?_)
                              refine lv_iload_n hx hb dX1_code_200 rfl (lv_at hl 0 rfl) ?_
                              refine lv_if_le (tgt := 224) hx hb dX1_code_201 (by decide) (fun c234 => ?_) (fun c234 => ?_)
                              · exact absurd c234 (by decide)
                              · refine lv_aload_n hx hb dX1_code_204 rfl (lv_at hl 2 rfl) ?_
                                refine lv_iconst (v := 2) hx hb dX1_code_205 (by decide) ?_
                                refine va_put (D := D) (ci := 1) (v := .int 2) (ty := .int) (C := RX1) (T := TX1) (N := 9) hx hb hts hin tyX1 tyX1_ok nmX1 hown hK hP hD hS 0 rfl rfl 8 (by decide) lk33 (fun _ h9 => h9) rfl (by decide +kernel) rfl rfl (Nat.le_of_ble_eq_true rfl) dX1_code_206 (fun H locs hP hD hS => ?_)
                                have hP : va_P D vwCl (mkW cR cY m0 m1 m2 (ro, sz, op, kd, tk, la, li, g228, 2)) H := hP
                                have hD : va_D A (mkW cR cY m0 m1 m2 (ro, sz, op, kd, tk, la, li, g228, 2)) := hD
                                refine lv_aload_n hx hb dX1_code_209 rfl (lv_at hl 2 rfl) ?_
                                refine va_get (D := D) (ci := 1) (v := .ref m2) (C := RX1) (T := TX1) (N := 9) hx hb hts hin hown hK hP 0 rfl rfl 7 (by decide) lk20 (fun _ h9 => h9) rfl dX1_code_210 ?_
                                refine lv_iconst (v := 0) hx hb dX1_code_213 (by decide) ?_
                                refine lv_bipush (v := 92) hx hb dX1_code_214 (by decide) ?_
                                refine va_iast hx hb hK hP hD hS 2 1 rfl rfl (show ¬ ((0 : Int32) < 0 ∨ 4 ≤ (0 : Int32).toNatClampNeg) from by decide) dX1_code_216 (fun H locs hP hD hS => ?_)
                                obtain ⟨g235, eg235⟩ : ∃ y : Nat → Int32, y = upd g228 (0 : Int32).toNatClampNeg (92 : Int32) := ⟨_, rfl⟩
                                have hP : va_P D vwCl (mkW cR cY m0 m1 m2 (ro, sz, op, kd, tk, la, li, g235, 2)) H := by rw [eg235]; exact hP
                                have hD : va_D A (mkW cR cY m0 m1 m2 (ro, sz, op, kd, tk, la, li, g235, 2)) := kk_D_same hD rfl
                                refine lv_aload_n hx hb dX1_code_217 rfl (lv_at hl 2 rfl) ?_
                                refine va_get (D := D) (ci := 1) (v := .ref m2) (C := RX1) (T := TX1) (N := 9) hx hb hts hin hown hK hP 0 rfl rfl 7 (by decide) lk20 (fun _ h9 => h9) rfl dX1_code_218 ?_
                                refine lv_iconst (v := 1) hx hb dX1_code_221 (by decide) ?_
                                refine lv_iload_n hx hb dX1_code_222 rfl (lv_at hl 0 rfl) ?_
                                refine va_iast hx hb hK hP hD hS 2 1 rfl rfl (show ¬ ((1 : Int32) < 0 ∨ 4 ≤ (1 : Int32).toNatClampNeg) from by decide) dX1_code_223 (fun H locs hP hD hS => ?_)
                                obtain ⟨g236, eg236⟩ : ∃ y : Nat → Int32, y = upd g235 (1 : Int32).toNatClampNeg (114 : Int32) := ⟨_, rfl⟩
                                have hP : va_P D vwCl (mkW cR cY m0 m1 m2 (ro, sz, op, kd, tk, la, li, g236, 2)) H := by rw [eg236]; exact hP
                                have hD : va_D A (mkW cR cY m0 m1 m2 (ro, sz, op, kd, tk, la, li, g236, 2)) := kk_D_same hD rfl
                                refine lv_iconst (v := 1) hx hb dX1_code_224 (by decide) ?_
                                have hres : 1 = (mk_code (ro, sz, op, kd, tk, la, li, bt, mn) x1).1 := by
                                  subst eg236 eg235 eg228 et227 et222 eg221 et220 et219
                                  first | rfl | (simp only [mk_code, mk_c3, mk_cm, mk_sb, mk_by1, mk_by2, mk_by3, mk_by4, mk_c4, mk_rem, if_neg c1, if_neg c2, if_neg c3, if_pos c135, if_pos c136, if_neg c137, if_pos c229, if_pos c230, if_pos c231, if_neg (not_not_intro c232)]; done) | (simp [mk_code, mk_c3, mk_cm, mk_sb, mk_by1, mk_by2, mk_by3, mk_by4, mk_c4, mk_rem, if_neg c1, if_neg c2, if_neg c3, if_pos c135, if_pos c136, if_neg c137, if_pos c229, if_pos c230, if_pos c231, if_neg (not_not_intro c232)]; done)
                                have hre2 : (ro, sz, op, kd, tk, la, li, g236, 2) = (mk_code (ro, sz, op, kd, tk, la, li, bt, mn) x1).2 := by
                                  subst eg236 eg235 eg228 et227 et222 eg221 et220 et219
                                  first | rfl | (simp only [mk_code, mk_c3, mk_cm, mk_sb, mk_by1, mk_by2, mk_by3, mk_by4, mk_c4, mk_rem, if_neg c1, if_neg c2, if_neg c3, if_pos c135, if_pos c136, if_neg c137, if_pos c229, if_pos c230, if_pos c231, if_neg (not_not_intro c232)]; done) | (simp [mk_code, mk_c3, mk_cm, mk_sb, mk_by1, mk_by2, mk_by3, mk_by4, mk_c4, mk_rem, if_neg c1, if_neg c2, if_neg c3, if_pos c135, if_pos c136, if_neg c137, if_pos c229, if_pos c230, if_pos c231, if_neg (not_not_intro c232)]; done)
                                exact W.zret (v := 1) (ty := .boolean) hx hb hr rfl (fun t ht hW => ⟨⟨1, (ro, sz, op, kd, tk, la, li, g236, 2), rfl, ⟨hres, hre2⟩, by show va_P D vwCl _ t.heap; rw [ht]; exact hP⟩, hS.F ht⟩) hS.2.2 dX1_code_225
                          · refine lv_bipush (v := 116) hx hb dX1_code_182 (by decide) ?_
                            refine lv_goto (tgt := 199) hx hb dX1_code_184 (by decide) ?_
                            refine lv_istore_n (lv' := [(3, .int 116), (2, .int t222), (0, .ref m0), (1, .int x1)]) hx hb dX1_code_199 rfl hl (by decide) rfl (fun ls hl => ?_)
                            refine lv_iload_n hx hb dX1_code_200 rfl (lv_at hl 0 rfl) ?_
                            refine lv_if_le (tgt := 224) hx hb dX1_code_201 (by decide) (fun c237 => ?_) (fun c237 => ?_)
                            · exact absurd c237 (by decide)
                            · refine lv_aload_n hx hb dX1_code_204 rfl (lv_at hl 2 rfl) ?_
                              refine lv_iconst (v := 2) hx hb dX1_code_205 (by decide) ?_
                              refine va_put (D := D) (ci := 1) (v := .int 2) (ty := .int) (C := RX1) (T := TX1) (N := 9) hx hb hts hin tyX1 tyX1_ok nmX1 hown hK hP hD hS 0 rfl rfl 8 (by decide) lk33 (fun _ h9 => h9) rfl (by decide +kernel) rfl rfl (Nat.le_of_ble_eq_true rfl) dX1_code_206 (fun H locs hP hD hS => ?_)
                              have hP : va_P D vwCl (mkW cR cY m0 m1 m2 (ro, sz, op, kd, tk, la, li, g228, 2)) H := hP
                              have hD : va_D A (mkW cR cY m0 m1 m2 (ro, sz, op, kd, tk, la, li, g228, 2)) := hD
                              refine lv_aload_n hx hb dX1_code_209 rfl (lv_at hl 2 rfl) ?_
                              refine va_get (D := D) (ci := 1) (v := .ref m2) (C := RX1) (T := TX1) (N := 9) hx hb hts hin hown hK hP 0 rfl rfl 7 (by decide) lk20 (fun _ h9 => h9) rfl dX1_code_210 ?_
                              refine lv_iconst (v := 0) hx hb dX1_code_213 (by decide) ?_
                              refine lv_bipush (v := 92) hx hb dX1_code_214 (by decide) ?_
                              refine va_iast hx hb hK hP hD hS 2 1 rfl rfl (show ¬ ((0 : Int32) < 0 ∨ 4 ≤ (0 : Int32).toNatClampNeg) from by decide) dX1_code_216 (fun H locs hP hD hS => ?_)
                              obtain ⟨g238, eg238⟩ : ∃ y : Nat → Int32, y = upd g228 (0 : Int32).toNatClampNeg (92 : Int32) := ⟨_, rfl⟩
                              have hP : va_P D vwCl (mkW cR cY m0 m1 m2 (ro, sz, op, kd, tk, la, li, g238, 2)) H := by rw [eg238]; exact hP
                              have hD : va_D A (mkW cR cY m0 m1 m2 (ro, sz, op, kd, tk, la, li, g238, 2)) := kk_D_same hD rfl
                              refine lv_aload_n hx hb dX1_code_217 rfl (lv_at hl 2 rfl) ?_
                              refine va_get (D := D) (ci := 1) (v := .ref m2) (C := RX1) (T := TX1) (N := 9) hx hb hts hin hown hK hP 0 rfl rfl 7 (by decide) lk20 (fun _ h9 => h9) rfl dX1_code_218 ?_
                              refine lv_iconst (v := 1) hx hb dX1_code_221 (by decide) ?_
                              refine lv_iload_n hx hb dX1_code_222 rfl (lv_at hl 0 rfl) ?_
                              refine va_iast hx hb hK hP hD hS 2 1 rfl rfl (show ¬ ((1 : Int32) < 0 ∨ 4 ≤ (1 : Int32).toNatClampNeg) from by decide) dX1_code_223 (fun H locs hP hD hS => ?_)
                              obtain ⟨g239, eg239⟩ : ∃ y : Nat → Int32, y = upd g238 (1 : Int32).toNatClampNeg (116 : Int32) := ⟨_, rfl⟩
                              have hP : va_P D vwCl (mkW cR cY m0 m1 m2 (ro, sz, op, kd, tk, la, li, g239, 2)) H := by rw [eg239]; exact hP
                              have hD : va_D A (mkW cR cY m0 m1 m2 (ro, sz, op, kd, tk, la, li, g239, 2)) := kk_D_same hD rfl
                              refine lv_iconst (v := 1) hx hb dX1_code_224 (by decide) ?_
                              have hres : 1 = (mk_code (ro, sz, op, kd, tk, la, li, bt, mn) x1).1 := by
                                subst eg239 eg238 eg228 et227 et222 eg221 et220 et219
                                first | rfl | (simp only [mk_code, mk_c3, mk_cm, mk_sb, mk_by1, mk_by2, mk_by3, mk_by4, mk_c4, mk_rem, if_neg c1, if_neg c2, if_neg c3, if_pos c135, if_pos c136, if_neg c137, if_pos c229, if_pos c230, if_neg (not_not_intro c231)]; done) | (simp [mk_code, mk_c3, mk_cm, mk_sb, mk_by1, mk_by2, mk_by3, mk_by4, mk_c4, mk_rem, if_neg c1, if_neg c2, if_neg c3, if_pos c135, if_pos c136, if_neg c137, if_pos c229, if_pos c230, if_neg (not_not_intro c231)]; done)
                              have hre2 : (ro, sz, op, kd, tk, la, li, g239, 2) = (mk_code (ro, sz, op, kd, tk, la, li, bt, mn) x1).2 := by
                                subst eg239 eg238 eg228 et227 et222 eg221 et220 et219
                                first | rfl | (simp only [mk_code, mk_c3, mk_cm, mk_sb, mk_by1, mk_by2, mk_by3, mk_by4, mk_c4, mk_rem, if_neg c1, if_neg c2, if_neg c3, if_pos c135, if_pos c136, if_neg c137, if_pos c229, if_pos c230, if_neg (not_not_intro c231)]; done) | (simp [mk_code, mk_c3, mk_cm, mk_sb, mk_by1, mk_by2, mk_by3, mk_by4, mk_c4, mk_rem, if_neg c1, if_neg c2, if_neg c3, if_pos c135, if_pos c136, if_neg c137, if_pos c229, if_pos c230, if_neg (not_not_intro c231)]; done)
                              exact W.zret (v := 1) (ty := .boolean) hx hb hr rfl (fun t ht hW => ⟨⟨1, (ro, sz, op, kd, tk, la, li, g239, 2), rfl, ⟨hres, hre2⟩, by show va_P D vwCl _ t.heap; rw [ht]; exact hP⟩, hS.F ht⟩) hS.2.2 dX1_code_225
                        · refine lv_bipush (v := 110) hx hb dX1_code_171 (by decide) ?_
                          refine lv_goto (tgt := 199) hx hb dX1_code_173 (by decide) ?_
                          refine lv_istore_n (lv' := [(3, .int 110), (2, .int t222), (0, .ref m0), (1, .int x1)]) hx hb dX1_code_199 rfl hl (by decide) rfl (fun ls hl => ?_)
                          refine lv_iload_n hx hb dX1_code_200 rfl (lv_at hl 0 rfl) ?_
                          refine lv_if_le (tgt := 224) hx hb dX1_code_201 (by decide) (fun c240 => ?_) (fun c240 => ?_)
                          · exact absurd c240 (by decide)
                          · refine lv_aload_n hx hb dX1_code_204 rfl (lv_at hl 2 rfl) ?_
                            refine lv_iconst (v := 2) hx hb dX1_code_205 (by decide) ?_
                            refine va_put (D := D) (ci := 1) (v := .int 2) (ty := .int) (C := RX1) (T := TX1) (N := 9) hx hb hts hin tyX1 tyX1_ok nmX1 hown hK hP hD hS 0 rfl rfl 8 (by decide) lk33 (fun _ h9 => h9) rfl (by decide +kernel) rfl rfl (Nat.le_of_ble_eq_true rfl) dX1_code_206 (fun H locs hP hD hS => ?_)
                            have hP : va_P D vwCl (mkW cR cY m0 m1 m2 (ro, sz, op, kd, tk, la, li, g228, 2)) H := hP
                            have hD : va_D A (mkW cR cY m0 m1 m2 (ro, sz, op, kd, tk, la, li, g228, 2)) := hD
                            refine lv_aload_n hx hb dX1_code_209 rfl (lv_at hl 2 rfl) ?_
                            refine va_get (D := D) (ci := 1) (v := .ref m2) (C := RX1) (T := TX1) (N := 9) hx hb hts hin hown hK hP 0 rfl rfl 7 (by decide) lk20 (fun _ h9 => h9) rfl dX1_code_210 ?_
                            refine lv_iconst (v := 0) hx hb dX1_code_213 (by decide) ?_
                            refine lv_bipush (v := 92) hx hb dX1_code_214 (by decide) ?_
                            refine va_iast hx hb hK hP hD hS 2 1 rfl rfl (show ¬ ((0 : Int32) < 0 ∨ 4 ≤ (0 : Int32).toNatClampNeg) from by decide) dX1_code_216 (fun H locs hP hD hS => ?_)
                            obtain ⟨g241, eg241⟩ : ∃ y : Nat → Int32, y = upd g228 (0 : Int32).toNatClampNeg (92 : Int32) := ⟨_, rfl⟩
                            have hP : va_P D vwCl (mkW cR cY m0 m1 m2 (ro, sz, op, kd, tk, la, li, g241, 2)) H := by rw [eg241]; exact hP
                            have hD : va_D A (mkW cR cY m0 m1 m2 (ro, sz, op, kd, tk, la, li, g241, 2)) := kk_D_same hD rfl
                            refine lv_aload_n hx hb dX1_code_217 rfl (lv_at hl 2 rfl) ?_
                            refine va_get (D := D) (ci := 1) (v := .ref m2) (C := RX1) (T := TX1) (N := 9) hx hb hts hin hown hK hP 0 rfl rfl 7 (by decide) lk20 (fun _ h9 => h9) rfl dX1_code_218 ?_
                            refine lv_iconst (v := 1) hx hb dX1_code_221 (by decide) ?_
                            refine lv_iload_n hx hb dX1_code_222 rfl (lv_at hl 0 rfl) ?_
                            refine va_iast hx hb hK hP hD hS 2 1 rfl rfl (show ¬ ((1 : Int32) < 0 ∨ 4 ≤ (1 : Int32).toNatClampNeg) from by decide) dX1_code_223 (fun H locs hP hD hS => ?_)
                            obtain ⟨g242, eg242⟩ : ∃ y : Nat → Int32, y = upd g241 (1 : Int32).toNatClampNeg (110 : Int32) := ⟨_, rfl⟩
                            have hP : va_P D vwCl (mkW cR cY m0 m1 m2 (ro, sz, op, kd, tk, la, li, g242, 2)) H := by rw [eg242]; exact hP
                            have hD : va_D A (mkW cR cY m0 m1 m2 (ro, sz, op, kd, tk, la, li, g242, 2)) := kk_D_same hD rfl
                            refine lv_iconst (v := 1) hx hb dX1_code_224 (by decide) ?_
                            have hres : 1 = (mk_code (ro, sz, op, kd, tk, la, li, bt, mn) x1).1 := by
                              subst eg242 eg241 eg228 et227 et222 eg221 et220 et219
                              first | rfl | (simp only [mk_code, mk_c3, mk_cm, mk_sb, mk_by1, mk_by2, mk_by3, mk_by4, mk_c4, mk_rem, if_neg c1, if_neg c2, if_neg c3, if_pos c135, if_pos c136, if_neg c137, if_pos c229, if_neg (not_not_intro c230)]; done) | (simp [mk_code, mk_c3, mk_cm, mk_sb, mk_by1, mk_by2, mk_by3, mk_by4, mk_c4, mk_rem, if_neg c1, if_neg c2, if_neg c3, if_pos c135, if_pos c136, if_neg c137, if_pos c229, if_neg (not_not_intro c230)]; done)
                            have hre2 : (ro, sz, op, kd, tk, la, li, g242, 2) = (mk_code (ro, sz, op, kd, tk, la, li, bt, mn) x1).2 := by
                              subst eg242 eg241 eg228 et227 et222 eg221 et220 et219
                              first | rfl | (simp only [mk_code, mk_c3, mk_cm, mk_sb, mk_by1, mk_by2, mk_by3, mk_by4, mk_c4, mk_rem, if_neg c1, if_neg c2, if_neg c3, if_pos c135, if_pos c136, if_neg c137, if_pos c229, if_neg (not_not_intro c230)]; done) | (simp [mk_code, mk_c3, mk_cm, mk_sb, mk_by1, mk_by2, mk_by3, mk_by4, mk_c4, mk_rem, if_neg c1, if_neg c2, if_neg c3, if_pos c135, if_pos c136, if_neg c137, if_pos c229, if_neg (not_not_intro c230)]; done)
                            exact W.zret (v := 1) (ty := .boolean) hx hb hr rfl (fun t ht hW => ⟨⟨1, (ro, sz, op, kd, tk, la, li, g242, 2), rfl, ⟨hres, hre2⟩, by show va_P D vwCl _ t.heap; rw [ht]; exact hP⟩, hS.F ht⟩) hS.2.2 dX1_code_225
                      · refine lv_bipush (v := 92) hx hb dX1_code_160 (by decide) ?_
                        refine lv_goto (tgt := 199) hx hb dX1_code_162 (by decide) ?_
                        refine lv_istore_n (lv' := [(3, .int 92), (2, .int t222), (0, .ref m0), (1, .int x1)]) hx hb dX1_code_199 rfl hl (by decide) rfl (fun ls hl => ?_)
                        refine lv_iload_n hx hb dX1_code_200 rfl (lv_at hl 0 rfl) ?_
                        refine lv_if_le (tgt := 224) hx hb dX1_code_201 (by decide) (fun c243 => ?_) (fun c243 => ?_)
                        · exact absurd c243 (by decide)
                        · refine lv_aload_n hx hb dX1_code_204 rfl (lv_at hl 2 rfl) ?_
                          refine lv_iconst (v := 2) hx hb dX1_code_205 (by decide) ?_
                          refine va_put (D := D) (ci := 1) (v := .int 2) (ty := .int) (C := RX1) (T := TX1) (N := 9) hx hb hts hin tyX1 tyX1_ok nmX1 hown hK hP hD hS 0 rfl rfl 8 (by decide) lk33 (fun _ h9 => h9) rfl (by decide +kernel) rfl rfl (Nat.le_of_ble_eq_true rfl) dX1_code_206 (fun H locs hP hD hS => ?_)
                          have hP : va_P D vwCl (mkW cR cY m0 m1 m2 (ro, sz, op, kd, tk, la, li, g228, 2)) H := hP
                          have hD : va_D A (mkW cR cY m0 m1 m2 (ro, sz, op, kd, tk, la, li, g228, 2)) := hD
                          refine lv_aload_n hx hb dX1_code_209 rfl (lv_at hl 2 rfl) ?_
                          refine va_get (D := D) (ci := 1) (v := .ref m2) (C := RX1) (T := TX1) (N := 9) hx hb hts hin hown hK hP 0 rfl rfl 7 (by decide) lk20 (fun _ h9 => h9) rfl dX1_code_210 ?_
                          refine lv_iconst (v := 0) hx hb dX1_code_213 (by decide) ?_
                          refine lv_bipush (v := 92) hx hb dX1_code_214 (by decide) ?_
                          refine va_iast hx hb hK hP hD hS 2 1 rfl rfl (show ¬ ((0 : Int32) < 0 ∨ 4 ≤ (0 : Int32).toNatClampNeg) from by decide) dX1_code_216 (fun H locs hP hD hS => ?_)
                          obtain ⟨g244, eg244⟩ : ∃ y : Nat → Int32, y = upd g228 (0 : Int32).toNatClampNeg (92 : Int32) := ⟨_, rfl⟩
                          have hP : va_P D vwCl (mkW cR cY m0 m1 m2 (ro, sz, op, kd, tk, la, li, g244, 2)) H := by rw [eg244]; exact hP
                          have hD : va_D A (mkW cR cY m0 m1 m2 (ro, sz, op, kd, tk, la, li, g244, 2)) := kk_D_same hD rfl
                          refine lv_aload_n hx hb dX1_code_217 rfl (lv_at hl 2 rfl) ?_
                          refine va_get (D := D) (ci := 1) (v := .ref m2) (C := RX1) (T := TX1) (N := 9) hx hb hts hin hown hK hP 0 rfl rfl 7 (by decide) lk20 (fun _ h9 => h9) rfl dX1_code_218 ?_
                          refine lv_iconst (v := 1) hx hb dX1_code_221 (by decide) ?_
                          refine lv_iload_n hx hb dX1_code_222 rfl (lv_at hl 0 rfl) ?_
                          refine va_iast hx hb hK hP hD hS 2 1 rfl rfl (show ¬ ((1 : Int32) < 0 ∨ 4 ≤ (1 : Int32).toNatClampNeg) from by decide) dX1_code_223 (fun H locs hP hD hS => ?_)
                          obtain ⟨g245, eg245⟩ : ∃ y : Nat → Int32, y = upd g244 (1 : Int32).toNatClampNeg (92 : Int32) := ⟨_, rfl⟩
                          have hP : va_P D vwCl (mkW cR cY m0 m1 m2 (ro, sz, op, kd, tk, la, li, g245, 2)) H := by rw [eg245]; exact hP
                          have hD : va_D A (mkW cR cY m0 m1 m2 (ro, sz, op, kd, tk, la, li, g245, 2)) := kk_D_same hD rfl
                          refine lv_iconst (v := 1) hx hb dX1_code_224 (by decide) ?_
                          have hres : 1 = (mk_code (ro, sz, op, kd, tk, la, li, bt, mn) x1).1 := by
                            subst eg245 eg244 eg228 et227 et222 eg221 et220 et219
                            first | rfl | (simp only [mk_code, mk_c3, mk_cm, mk_sb, mk_by1, mk_by2, mk_by3, mk_by4, mk_c4, mk_rem, if_neg c1, if_neg c2, if_neg c3, if_pos c135, if_pos c136, if_neg c137, if_neg (not_not_intro c229)]; done) | (simp [mk_code, mk_c3, mk_cm, mk_sb, mk_by1, mk_by2, mk_by3, mk_by4, mk_c4, mk_rem, if_neg c1, if_neg c2, if_neg c3, if_pos c135, if_pos c136, if_neg c137, if_neg (not_not_intro c229)]; done)
                          have hre2 : (ro, sz, op, kd, tk, la, li, g245, 2) = (mk_code (ro, sz, op, kd, tk, la, li, bt, mn) x1).2 := by
                            subst eg245 eg244 eg228 et227 et222 eg221 et220 et219
                            first | rfl | (simp only [mk_code, mk_c3, mk_cm, mk_sb, mk_by1, mk_by2, mk_by3, mk_by4, mk_c4, mk_rem, if_neg c1, if_neg c2, if_neg c3, if_pos c135, if_pos c136, if_neg c137, if_neg (not_not_intro c229)]; done) | (simp [mk_code, mk_c3, mk_cm, mk_sb, mk_by1, mk_by2, mk_by3, mk_by4, mk_c4, mk_rem, if_neg c1, if_neg c2, if_neg c3, if_pos c135, if_pos c136, if_neg c137, if_neg (not_not_intro c229)]; done)
                          exact W.zret (v := 1) (ty := .boolean) hx hb hr rfl (fun t ht hW => ⟨⟨1, (ro, sz, op, kd, tk, la, li, g245, 2), rfl, ⟨hres, hre2⟩, by show va_P D vwCl _ t.heap; rw [ht]; exact hP⟩, hS.F ht⟩) hS.2.2 dX1_code_225
                  · exact absurd c225 (by decide)
                · exact absurd c224 (by decide)
          · refine lv_iconst (v := 1) hx hb dX1_code_32 (by decide) ?_
            refine lv_goto (tgt := 58) hx hb dX1_code_33 (by decide) ?_
            refine va_put (D := D) (ci := 1) (v := .int 1) (ty := .int) (C := RX1) (T := TX1) (N := 9) hx hb hts hin tyX1 tyX1_ok nmX1 hown hK hP hD hS 0 rfl rfl 8 (by decide) lk33 (fun _ h9 => h9) rfl (by decide +kernel) rfl rfl (Nat.le_of_ble_eq_true rfl) dX1_code_58 (fun H locs hP hD hS => ?_)
            have hP : va_P D vwCl (mkW cR cY m0 m1 m2 (ro, sz, op, kd, tk, la, li, bt, 1)) H := hP
            have hD : va_D A (mkW cR cY m0 m1 m2 (ro, sz, op, kd, tk, la, li, bt, 1)) := hD
            refine lv_iload_n hx hb dX1_code_61 rfl (lv_at hl 1 rfl) ?_
            refine lv_istore_n (lv' := [(2, .int x1), (0, .ref m0), (1, .int x1)]) hx hb dX1_code_62 rfl hl (by decide) rfl (fun ls hl => ?_)
            refine lv_aload_n hx hb dX1_code_63 rfl (lv_at hl 1 rfl) ?_
            refine va_get (D := D) (ci := 1) (v := .int 1) (C := RX1) (T := TX1) (N := 9) hx hb hts hin hown hK hP 0 rfl rfl 8 (by decide) lk33 (fun _ h9 => h9) rfl dX1_code_64 ?_
            refine lv_iconst (v := 1) hx hb dX1_code_67 (by decide) ?_
            refine lv_isub hx hb dX1_code_68 ?_
            refine lv_topi (fun t246 et246 => ?_)
            obtain rfl : t246 = 0 := by rw [et246]; decide
            refine lv_istore_n (lv' := [(3, .int 0), (2, .int x1), (0, .ref m0), (1, .int x1)]) hx hb dX1_code_69 rfl hl (by decide) rfl (fun ls hl => ?_)
            refine lv_iload_n hx hb dX1_code_70 rfl (lv_at hl 0 rfl) ?_
            refine lv_if_le (tgt := 99) hx hb dX1_code_71 (by decide) (fun c247 => ?_) (fun c247 => ?_)
            · refine lv_aload_n hx hb dX1_code_99 rfl (lv_at hl 2 rfl) ?_
              refine va_get (D := D) (ci := 1) (v := .ref m2) (C := RX1) (T := TX1) (N := 9) hx hb hts hin hown hK hP 0 rfl rfl 7 (by decide) lk20 (fun _ h9 => h9) rfl dX1_code_100 ?_
              refine lv_iconst (v := 0) hx hb dX1_code_103 (by decide) ?_
              refine lv_aload_n hx hb dX1_code_104 rfl (lv_at hl 2 rfl) ?_
              refine va_get (D := D) (ci := 1) (v := .int 1) (C := RX1) (T := TX1) (N := 9) hx hb hts hin hown hK hP 0 rfl rfl 8 (by decide) lk33 (fun _ h9 => h9) rfl dX1_code_105 ?_
              refine lv_iconst (v := 1) hx hb dX1_code_108 (by decide) ?_
              refine lv_icmp_ne (tgt := 116) hx hb dX1_code_109 (by decide) (fun c248 => ?_) (fun c248 => ?_)
              · exact absurd c248 (by decide)
              · refine lv_iload_n hx hb dX1_code_112 rfl (lv_at hl 1 rfl) ?_
                refine lv_goto (tgt := 153) hx hb dX1_code_113 (by decide) ?_
                refine va_iast hx hb hK hP hD hS 2 1 rfl rfl (show ¬ ((0 : Int32) < 0 ∨ 4 ≤ (0 : Int32).toNatClampNeg) from by decide) dX1_code_153 (fun H locs hP hD hS => ?_)
                obtain ⟨g249, eg249⟩ : ∃ y : Nat → Int32, y = upd bt (0 : Int32).toNatClampNeg x1 := ⟨_, rfl⟩
                have hP : va_P D vwCl (mkW cR cY m0 m1 m2 (ro, sz, op, kd, tk, la, li, g249, 1)) H := by rw [eg249]; exact hP
                have hD : va_D A (mkW cR cY m0 m1 m2 (ro, sz, op, kd, tk, la, li, g249, 1)) := kk_D_same hD rfl
                refine lv_iload_n hx hb dX1_code_154 rfl (lv_at hl 3 rfl) ?_
                refine lv_bipush (v := 92) hx hb dX1_code_155 (by decide) ?_
                refine lv_icmp_ne (tgt := 165) hx hb dX1_code_157 (by decide) (fun c250 => ?_) (fun c250 => ?_)
                · refine lv_iload_n hx hb dX1_code_165 rfl (lv_at hl 3 rfl) ?_
                  refine lv_bipush (v := 10) hx hb dX1_code_166 (by decide) ?_
                  refine lv_icmp_ne (tgt := 176) hx hb dX1_code_168 (by decide) (fun c251 => ?_) (fun c251 => ?_)
                  · refine lv_iload_n hx hb dX1_code_176 rfl (lv_at hl 3 rfl) ?_
                    refine lv_bipush (v := 9) hx hb dX1_code_177 (by decide) ?_
                    refine lv_icmp_ne (tgt := 187) hx hb dX1_code_179 (by decide) (fun c252 => ?_) (fun c252 => ?_)
                    · refine lv_iload_n hx hb dX1_code_187 rfl (lv_at hl 3 rfl) ?_
                      refine lv_bipush (v := 13) hx hb dX1_code_188 (by decide) ?_
                      refine lv_icmp_ne (tgt := 198) hx hb dX1_code_190 (by decide) (fun c253 => ?_) (fun c253 => ?_)
                      · refine lv_iconst (v := 0) hx hb dX1_code_198 (by decide) ?_
                        refine lv_istore_n (lv' := [(3, .int 0), (2, .int x1), (0, .ref m0), (1, .int x1)]) hx hb dX1_code_199 rfl hl (by decide) rfl (fun ls hl => ?_)
                        refine lv_iload_n hx hb dX1_code_200 rfl (lv_at hl 0 rfl) ?_
                        refine lv_if_le (tgt := 224) hx hb dX1_code_201 (by decide) (fun c254 => ?_) (fun c254 => ?_)
                        · refine lv_iconst (v := 1) hx hb dX1_code_224 (by decide) ?_
                          have hres : 1 = (mk_code (ro, sz, op, kd, tk, la, li, bt, mn) x1).1 := by
                            subst eg249
                            first | rfl | (simp only [mk_code, mk_c3, mk_cm, mk_sb, mk_by1, mk_by2, mk_by3, mk_by4, mk_c4, mk_rem, if_neg c1, if_neg c2, if_neg c3, if_pos c135, if_neg c136, if_pos c250, if_pos c251, if_pos c252, if_pos c253]; done) | (simp [mk_code, mk_c3, mk_cm, mk_sb, mk_by1, mk_by2, mk_by3, mk_by4, mk_c4, mk_rem, if_neg c1, if_neg c2, if_neg c3, if_pos c135, if_neg c136, if_pos c250, if_pos c251, if_pos c252, if_pos c253]; done)
                          have hre2 : (ro, sz, op, kd, tk, la, li, g249, 1) = (mk_code (ro, sz, op, kd, tk, la, li, bt, mn) x1).2 := by
                            subst eg249
                            first | rfl | (simp only [mk_code, mk_c3, mk_cm, mk_sb, mk_by1, mk_by2, mk_by3, mk_by4, mk_c4, mk_rem, if_neg c1, if_neg c2, if_neg c3, if_pos c135, if_neg c136, if_pos c250, if_pos c251, if_pos c252, if_pos c253]; done) | (simp [mk_code, mk_c3, mk_cm, mk_sb, mk_by1, mk_by2, mk_by3, mk_by4, mk_c4, mk_rem, if_neg c1, if_neg c2, if_neg c3, if_pos c135, if_neg c136, if_pos c250, if_pos c251, if_pos c252, if_pos c253]; done)
                          exact W.zret (v := 1) (ty := .boolean) hx hb hr rfl (fun t ht hW => ⟨⟨1, (ro, sz, op, kd, tk, la, li, g249, 1), rfl, ⟨hres, hre2⟩, by show va_P D vwCl _ t.heap; rw [ht]; exact hP⟩, hS.F ht⟩) hS.2.2 dX1_code_225
                        · exact absurd c254 (by decide)
                      · refine lv_bipush (v := 114) hx hb dX1_code_193 (by decide) ?_
                        refine lv_goto (tgt := 199) hx hb dX1_code_195 (by decide) ?_
                        refine lv_istore_n (lv' := [(3, .int 114), (2, .int x1), (0, .ref m0), (1, .int x1)]) hx hb dX1_code_199 rfl hl (by decide) rfl (fun ls hl => ?_)
                        refine lv_iload_n hx hb dX1_code_200 rfl (lv_at hl 0 rfl) ?_
                        refine lv_if_le (tgt := 224) hx hb dX1_code_201 (by decide) (fun c255 => ?_) (fun c255 => ?_)
                        · exact absurd c255 (by decide)
                        · refine lv_aload_n hx hb dX1_code_204 rfl (lv_at hl 2 rfl) ?_
                          refine lv_iconst (v := 2) hx hb dX1_code_205 (by decide) ?_
                          refine va_put (D := D) (ci := 1) (v := .int 2) (ty := .int) (C := RX1) (T := TX1) (N := 9) hx hb hts hin tyX1 tyX1_ok nmX1 hown hK hP hD hS 0 rfl rfl 8 (by decide) lk33 (fun _ h9 => h9) rfl (by decide +kernel) rfl rfl (Nat.le_of_ble_eq_true rfl) dX1_code_206 (fun H locs hP hD hS => ?_)
                          have hP : va_P D vwCl (mkW cR cY m0 m1 m2 (ro, sz, op, kd, tk, la, li, g249, 2)) H := hP
                          have hD : va_D A (mkW cR cY m0 m1 m2 (ro, sz, op, kd, tk, la, li, g249, 2)) := hD
                          refine lv_aload_n hx hb dX1_code_209 rfl (lv_at hl 2 rfl) ?_
                          refine va_get (D := D) (ci := 1) (v := .ref m2) (C := RX1) (T := TX1) (N := 9) hx hb hts hin hown hK hP 0 rfl rfl 7 (by decide) lk20 (fun _ h9 => h9) rfl dX1_code_210 ?_
                          refine lv_iconst (v := 0) hx hb dX1_code_213 (by decide) ?_
                          refine lv_bipush (v := 92) hx hb dX1_code_214 (by decide) ?_
                          refine va_iast hx hb hK hP hD hS 2 1 rfl rfl (show ¬ ((0 : Int32) < 0 ∨ 4 ≤ (0 : Int32).toNatClampNeg) from by decide) dX1_code_216 (fun H locs hP hD hS => ?_)
                          obtain ⟨g256, eg256⟩ : ∃ y : Nat → Int32, y = upd g249 (0 : Int32).toNatClampNeg (92 : Int32) := ⟨_, rfl⟩
                          have hP : va_P D vwCl (mkW cR cY m0 m1 m2 (ro, sz, op, kd, tk, la, li, g256, 2)) H := by rw [eg256]; exact hP
                          have hD : va_D A (mkW cR cY m0 m1 m2 (ro, sz, op, kd, tk, la, li, g256, 2)) := kk_D_same hD rfl
                          refine lv_aload_n hx hb dX1_code_217 rfl (lv_at hl 2 rfl) ?_
                          refine va_get (D := D) (ci := 1) (v := .ref m2) (C := RX1) (T := TX1) (N := 9) hx hb hts hin hown hK hP 0 rfl rfl 7 (by decide) lk20 (fun _ h9 => h9) rfl dX1_code_218 ?_
                          refine lv_iconst (v := 1) hx hb dX1_code_221 (by decide) ?_
                          refine lv_iload_n hx hb dX1_code_222 rfl (lv_at hl 0 rfl) ?_
                          refine va_iast hx hb hK hP hD hS 2 1 rfl rfl (show ¬ ((1 : Int32) < 0 ∨ 4 ≤ (1 : Int32).toNatClampNeg) from by decide) dX1_code_223 (fun H locs hP hD hS => ?_)
                          obtain ⟨g257, eg257⟩ : ∃ y : Nat → Int32, y = upd g256 (1 : Int32).toNatClampNeg (114 : Int32) := ⟨_, rfl⟩
                          have hP : va_P D vwCl (mkW cR cY m0 m1 m2 (ro, sz, op, kd, tk, la, li, g257, 2)) H := by rw [eg257]; exact hP
                          have hD : va_D A (mkW cR cY m0 m1 m2 (ro, sz, op, kd, tk, la, li, g257, 2)) := kk_D_same hD rfl
                          refine lv_iconst (v := 1) hx hb dX1_code_224 (by decide) ?_
                          have hres : 1 = (mk_code (ro, sz, op, kd, tk, la, li, bt, mn) x1).1 := by
                            subst eg257 eg256 eg249
                            first | rfl | (simp only [mk_code, mk_c3, mk_cm, mk_sb, mk_by1, mk_by2, mk_by3, mk_by4, mk_c4, mk_rem, if_neg c1, if_neg c2, if_neg c3, if_pos c135, if_neg c136, if_pos c250, if_pos c251, if_pos c252, if_neg (not_not_intro c253)]; done) | (simp [mk_code, mk_c3, mk_cm, mk_sb, mk_by1, mk_by2, mk_by3, mk_by4, mk_c4, mk_rem, if_neg c1, if_neg c2, if_neg c3, if_pos c135, if_neg c136, if_pos c250, if_pos c251, if_pos c252, if_neg (not_not_intro c253)]; done)
                          have hre2 : (ro, sz, op, kd, tk, la, li, g257, 2) = (mk_code (ro, sz, op, kd, tk, la, li, bt, mn) x1).2 := by
                            subst eg257 eg256 eg249
                            first | rfl | (simp only [mk_code, mk_c3, mk_cm, mk_sb, mk_by1, mk_by2, mk_by3, mk_by4, mk_c4, mk_rem, if_neg c1, if_neg c2, if_neg c3, if_pos c135, if_neg c136, if_pos c250, if_pos c251, if_pos c252, if_neg (not_not_intro c253)]; done) | (simp [mk_code, mk_c3, mk_cm, mk_sb, mk_by1, mk_by2, mk_by3, mk_by4, mk_c4, mk_rem, if_neg c1, if_neg c2, if_neg c3, if_pos c135, if_neg c136, if_pos c250, if_pos c251, if_pos c252, if_neg (not_not_intro c253)]; done)
                          exact W.zret (v := 1) (ty := .boolean) hx hb hr rfl (fun t ht hW => ⟨⟨1, (ro, sz, op, kd, tk, la, li, g257, 2), rfl, ⟨hres, hre2⟩, by show va_P D vwCl _ t.heap; rw [ht]; exact hP⟩, hS.F ht⟩) hS.2.2 dX1_code_225
                    · refine lv_bipush (v := 116) hx hb dX1_code_182 (by decide) ?_
                      refine lv_goto (tgt := 199) hx hb dX1_code_184 (by decide) ?_
                      refine lv_istore_n (lv' := [(3, .int 116), (2, .int x1), (0, .ref m0), (1, .int x1)]) hx hb dX1_code_199 rfl hl (by decide) rfl (fun ls hl => ?_)
                      refine lv_iload_n hx hb dX1_code_200 rfl (lv_at hl 0 rfl) ?_
                      refine lv_if_le (tgt := 224) hx hb dX1_code_201 (by decide) (fun c258 => ?_) (fun c258 => ?_)
                      · exact absurd c258 (by decide)
                      · refine lv_aload_n hx hb dX1_code_204 rfl (lv_at hl 2 rfl) ?_
                        refine lv_iconst (v := 2) hx hb dX1_code_205 (by decide) ?_
                        refine va_put (D := D) (ci := 1) (v := .int 2) (ty := .int) (C := RX1) (T := TX1) (N := 9) hx hb hts hin tyX1 tyX1_ok nmX1 hown hK hP hD hS 0 rfl rfl 8 (by decide) lk33 (fun _ h9 => h9) rfl (by decide +kernel) rfl rfl (Nat.le_of_ble_eq_true rfl) dX1_code_206 (fun H locs hP hD hS => ?_)
                        have hP : va_P D vwCl (mkW cR cY m0 m1 m2 (ro, sz, op, kd, tk, la, li, g249, 2)) H := hP
                        have hD : va_D A (mkW cR cY m0 m1 m2 (ro, sz, op, kd, tk, la, li, g249, 2)) := hD
                        refine lv_aload_n hx hb dX1_code_209 rfl (lv_at hl 2 rfl) ?_
                        refine va_get (D := D) (ci := 1) (v := .ref m2) (C := RX1) (T := TX1) (N := 9) hx hb hts hin hown hK hP 0 rfl rfl 7 (by decide) lk20 (fun _ h9 => h9) rfl dX1_code_210 ?_
                        refine lv_iconst (v := 0) hx hb dX1_code_213 (by decide) ?_
                        refine lv_bipush (v := 92) hx hb dX1_code_214 (by decide) ?_
                        refine va_iast hx hb hK hP hD hS 2 1 rfl rfl (show ¬ ((0 : Int32) < 0 ∨ 4 ≤ (0 : Int32).toNatClampNeg) from by decide) dX1_code_216 (fun H locs hP hD hS => ?_)
                        obtain ⟨g259, eg259⟩ : ∃ y : Nat → Int32, y = upd g249 (0 : Int32).toNatClampNeg (92 : Int32) := ⟨_, rfl⟩
                        have hP : va_P D vwCl (mkW cR cY m0 m1 m2 (ro, sz, op, kd, tk, la, li, g259, 2)) H := by rw [eg259]; exact hP
                        have hD : va_D A (mkW cR cY m0 m1 m2 (ro, sz, op, kd, tk, la, li, g259, 2)) := kk_D_same hD rfl
                        refine lv_aload_n hx hb dX1_code_217 rfl (lv_at hl 2 rfl) ?_
                        refine va_get (D := D) (ci := 1) (v := .ref m2) (C := RX1) (T := TX1) (N := 9) hx hb hts hin hown hK hP 0 rfl rfl 7 (by decide) lk20 (fun _ h9 => h9) rfl dX1_code_218 ?_
                        refine lv_iconst (v := 1) hx hb dX1_code_221 (by decide) ?_
                        refine lv_iload_n hx hb dX1_code_222 rfl (lv_at hl 0 rfl) ?_
                        refine va_iast hx hb hK hP hD hS 2 1 rfl rfl (show ¬ ((1 : Int32) < 0 ∨ 4 ≤ (1 : Int32).toNatClampNeg) from by decide) dX1_code_223 (fun H locs hP hD hS => ?_)
                        obtain ⟨g260, eg260⟩ : ∃ y : Nat → Int32, y = upd g259 (1 : Int32).toNatClampNeg (116 : Int32) := ⟨_, rfl⟩
                        have hP : va_P D vwCl (mkW cR cY m0 m1 m2 (ro, sz, op, kd, tk, la, li, g260, 2)) H := by rw [eg260]; exact hP
                        have hD : va_D A (mkW cR cY m0 m1 m2 (ro, sz, op, kd, tk, la, li, g260, 2)) := kk_D_same hD rfl
                        refine lv_iconst (v := 1) hx hb dX1_code_224 (by decide) ?_
                        have hres : 1 = (mk_code (ro, sz, op, kd, tk, la, li, bt, mn) x1).1 := by
                          subst eg260 eg259 eg249
                          first | rfl | (simp only [mk_code, mk_c3, mk_cm, mk_sb, mk_by1, mk_by2, mk_by3, mk_by4, mk_c4, mk_rem, if_neg c1, if_neg c2, if_neg c3, if_pos c135, if_neg c136, if_pos c250, if_pos c251, if_neg (not_not_intro c252)]; done) | (simp [mk_code, mk_c3, mk_cm, mk_sb, mk_by1, mk_by2, mk_by3, mk_by4, mk_c4, mk_rem, if_neg c1, if_neg c2, if_neg c3, if_pos c135, if_neg c136, if_pos c250, if_pos c251, if_neg (not_not_intro c252)]; done)
                        have hre2 : (ro, sz, op, kd, tk, la, li, g260, 2) = (mk_code (ro, sz, op, kd, tk, la, li, bt, mn) x1).2 := by
                          subst eg260 eg259 eg249
                          first | rfl | (simp only [mk_code, mk_c3, mk_cm, mk_sb, mk_by1, mk_by2, mk_by3, mk_by4, mk_c4, mk_rem, if_neg c1, if_neg c2, if_neg c3, if_pos c135, if_neg c136, if_pos c250, if_pos c251, if_neg (not_not_intro c252)]; done) | (simp [mk_code, mk_c3, mk_cm, mk_sb, mk_by1, mk_by2, mk_by3, mk_by4, mk_c4, mk_rem, if_neg c1, if_neg c2, if_neg c3, if_pos c135, if_neg c136, if_pos c250, if_pos c251, if_neg (not_not_intro c252)]; done)
                        exact W.zret (v := 1) (ty := .boolean) hx hb hr rfl (fun t ht hW => ⟨⟨1, (ro, sz, op, kd, tk, la, li, g260, 2), rfl, ⟨hres, hre2⟩, by show va_P D vwCl _ t.heap; rw [ht]; exact hP⟩, hS.F ht⟩) hS.2.2 dX1_code_225
                  · refine lv_bipush (v := 110) hx hb dX1_code_171 (by decide) ?_
                    refine lv_goto (tgt := 199) hx hb dX1_code_173 (by decide) ?_
                    refine lv_istore_n (lv' := [(3, .int 110), (2, .int x1), (0, .ref m0), (1, .int x1)]) hx hb dX1_code_199 rfl hl (by decide) rfl (fun ls hl => ?_)
                    refine lv_iload_n hx hb dX1_code_200 rfl (lv_at hl 0 rfl) ?_
                    refine lv_if_le (tgt := 224) hx hb dX1_code_201 (by decide) (fun c261 => ?_) (fun c261 => ?_)
                    · exact absurd c261 (by decide)
                    · refine lv_aload_n hx hb dX1_code_204 rfl (lv_at hl 2 rfl) ?_
                      refine lv_iconst (v := 2) hx hb dX1_code_205 (by decide) ?_
                      refine va_put (D := D) (ci := 1) (v := .int 2) (ty := .int) (C := RX1) (T := TX1) (N := 9) hx hb hts hin tyX1 tyX1_ok nmX1 hown hK hP hD hS 0 rfl rfl 8 (by decide) lk33 (fun _ h9 => h9) rfl (by decide +kernel) rfl rfl (Nat.le_of_ble_eq_true rfl) dX1_code_206 (fun H locs hP hD hS => ?_)
                      have hP : va_P D vwCl (mkW cR cY m0 m1 m2 (ro, sz, op, kd, tk, la, li, g249, 2)) H := hP
                      have hD : va_D A (mkW cR cY m0 m1 m2 (ro, sz, op, kd, tk, la, li, g249, 2)) := hD
                      refine lv_aload_n hx hb dX1_code_209 rfl (lv_at hl 2 rfl) ?_
                      refine va_get (D := D) (ci := 1) (v := .ref m2) (C := RX1) (T := TX1) (N := 9) hx hb hts hin hown hK hP 0 rfl rfl 7 (by decide) lk20 (fun _ h9 => h9) rfl dX1_code_210 ?_
                      refine lv_iconst (v := 0) hx hb dX1_code_213 (by decide) ?_
                      refine lv_bipush (v := 92) hx hb dX1_code_214 (by decide) ?_
                      refine va_iast hx hb hK hP hD hS 2 1 rfl rfl (show ¬ ((0 : Int32) < 0 ∨ 4 ≤ (0 : Int32).toNatClampNeg) from by decide) dX1_code_216 (fun H locs hP hD hS => ?_)
                      obtain ⟨g262, eg262⟩ : ∃ y : Nat → Int32, y = upd g249 (0 : Int32).toNatClampNeg (92 : Int32) := ⟨_, rfl⟩
                      have hP : va_P D vwCl (mkW cR cY m0 m1 m2 (ro, sz, op, kd, tk, la, li, g262, 2)) H := by rw [eg262]; exact hP
                      have hD : va_D A (mkW cR cY m0 m1 m2 (ro, sz, op, kd, tk, la, li, g262, 2)) := kk_D_same hD rfl
                      refine lv_aload_n hx hb dX1_code_217 rfl (lv_at hl 2 rfl) ?_
                      refine va_get (D := D) (ci := 1) (v := .ref m2) (C := RX1) (T := TX1) (N := 9) hx hb hts hin hown hK hP 0 rfl rfl 7 (by decide) lk20 (fun _ h9 => h9) rfl dX1_code_218 ?_
                      refine lv_iconst (v := 1) hx hb dX1_code_221 (by decide) ?_
                      refine lv_iload_n hx hb dX1_code_222 rfl (lv_at hl 0 rfl) ?_
                      refine va_iast hx hb hK hP hD hS 2 1 rfl rfl (show ¬ ((1 : Int32) < 0 ∨ 4 ≤ (1 : Int32).toNatClampNeg) from by decide) dX1_code_223 (fun H locs hP hD hS => ?_)
                      obtain ⟨g263, eg263⟩ : ∃ y : Nat → Int32, y = upd g262 (1 : Int32).toNatClampNeg (110 : Int32) := ⟨_, rfl⟩
                      have hP : va_P D vwCl (mkW cR cY m0 m1 m2 (ro, sz, op, kd, tk, la, li, g263, 2)) H := by rw [eg263]; exact hP
                      have hD : va_D A (mkW cR cY m0 m1 m2 (ro, sz, op, kd, tk, la, li, g263, 2)) := kk_D_same hD rfl
                      refine lv_iconst (v := 1) hx hb dX1_code_224 (by decide) ?_
                      have hres : 1 = (mk_code (ro, sz, op, kd, tk, la, li, bt, mn) x1).1 := by
                        subst eg263 eg262 eg249
                        first | rfl | (simp only [mk_code, mk_c3, mk_cm, mk_sb, mk_by1, mk_by2, mk_by3, mk_by4, mk_c4, mk_rem, if_neg c1, if_neg c2, if_neg c3, if_pos c135, if_neg c136, if_pos c250, if_neg (not_not_intro c251)]; done) | (simp [mk_code, mk_c3, mk_cm, mk_sb, mk_by1, mk_by2, mk_by3, mk_by4, mk_c4, mk_rem, if_neg c1, if_neg c2, if_neg c3, if_pos c135, if_neg c136, if_pos c250, if_neg (not_not_intro c251)]; done)
                      have hre2 : (ro, sz, op, kd, tk, la, li, g263, 2) = (mk_code (ro, sz, op, kd, tk, la, li, bt, mn) x1).2 := by
                        subst eg263 eg262 eg249
                        first | rfl | (simp only [mk_code, mk_c3, mk_cm, mk_sb, mk_by1, mk_by2, mk_by3, mk_by4, mk_c4, mk_rem, if_neg c1, if_neg c2, if_neg c3, if_pos c135, if_neg c136, if_pos c250, if_neg (not_not_intro c251)]; done) | (simp [mk_code, mk_c3, mk_cm, mk_sb, mk_by1, mk_by2, mk_by3, mk_by4, mk_c4, mk_rem, if_neg c1, if_neg c2, if_neg c3, if_pos c135, if_neg c136, if_pos c250, if_neg (not_not_intro c251)]; done)
                      exact W.zret (v := 1) (ty := .boolean) hx hb hr rfl (fun t ht hW => ⟨⟨1, (ro, sz, op, kd, tk, la, li, g263, 2), rfl, ⟨hres, hre2⟩, by show va_P D vwCl _ t.heap; rw [ht]; exact hP⟩, hS.F ht⟩) hS.2.2 dX1_code_225
                · refine lv_bipush (v := 92) hx hb dX1_code_160 (by decide) ?_
                  refine lv_goto (tgt := 199) hx hb dX1_code_162 (by decide) ?_
                  refine lv_istore_n (lv' := [(3, .int 92), (2, .int x1), (0, .ref m0), (1, .int x1)]) hx hb dX1_code_199 rfl hl (by decide) rfl (fun ls hl => ?_)
                  refine lv_iload_n hx hb dX1_code_200 rfl (lv_at hl 0 rfl) ?_
                  refine lv_if_le (tgt := 224) hx hb dX1_code_201 (by decide) (fun c264 => ?_) (fun c264 => ?_)
                  · exact absurd c264 (by decide)
                  · refine lv_aload_n hx hb dX1_code_204 rfl (lv_at hl 2 rfl) ?_
                    refine lv_iconst (v := 2) hx hb dX1_code_205 (by decide) ?_
                    refine va_put (D := D) (ci := 1) (v := .int 2) (ty := .int) (C := RX1) (T := TX1) (N := 9) hx hb hts hin tyX1 tyX1_ok nmX1 hown hK hP hD hS 0 rfl rfl 8 (by decide) lk33 (fun _ h9 => h9) rfl (by decide +kernel) rfl rfl (Nat.le_of_ble_eq_true rfl) dX1_code_206 (fun H locs hP hD hS => ?_)
                    have hP : va_P D vwCl (mkW cR cY m0 m1 m2 (ro, sz, op, kd, tk, la, li, g249, 2)) H := hP
                    have hD : va_D A (mkW cR cY m0 m1 m2 (ro, sz, op, kd, tk, la, li, g249, 2)) := hD
                    refine lv_aload_n hx hb dX1_code_209 rfl (lv_at hl 2 rfl) ?_
                    refine va_get (D := D) (ci := 1) (v := .ref m2) (C := RX1) (T := TX1) (N := 9) hx hb hts hin hown hK hP 0 rfl rfl 7 (by decide) lk20 (fun _ h9 => h9) rfl dX1_code_210 ?_
                    refine lv_iconst (v := 0) hx hb dX1_code_213 (by decide) ?_
                    refine lv_bipush (v := 92) hx hb dX1_code_214 (by decide) ?_
                    refine va_iast hx hb hK hP hD hS 2 1 rfl rfl (show ¬ ((0 : Int32) < 0 ∨ 4 ≤ (0 : Int32).toNatClampNeg) from by decide) dX1_code_216 (fun H locs hP hD hS => ?_)
                    obtain ⟨g265, eg265⟩ : ∃ y : Nat → Int32, y = upd g249 (0 : Int32).toNatClampNeg (92 : Int32) := ⟨_, rfl⟩
                    have hP : va_P D vwCl (mkW cR cY m0 m1 m2 (ro, sz, op, kd, tk, la, li, g265, 2)) H := by rw [eg265]; exact hP
                    have hD : va_D A (mkW cR cY m0 m1 m2 (ro, sz, op, kd, tk, la, li, g265, 2)) := kk_D_same hD rfl
                    refine lv_aload_n hx hb dX1_code_217 rfl (lv_at hl 2 rfl) ?_
                    refine va_get (D := D) (ci := 1) (v := .ref m2) (C := RX1) (T := TX1) (N := 9) hx hb hts hin hown hK hP 0 rfl rfl 7 (by decide) lk20 (fun _ h9 => h9) rfl dX1_code_218 ?_
                    refine lv_iconst (v := 1) hx hb dX1_code_221 (by decide) ?_
                    refine lv_iload_n hx hb dX1_code_222 rfl (lv_at hl 0 rfl) ?_
                    refine va_iast hx hb hK hP hD hS 2 1 rfl rfl (show ¬ ((1 : Int32) < 0 ∨ 4 ≤ (1 : Int32).toNatClampNeg) from by decide) dX1_code_223 (fun H locs hP hD hS => ?_)
                    obtain ⟨g266, eg266⟩ : ∃ y : Nat → Int32, y = upd g265 (1 : Int32).toNatClampNeg (92 : Int32) := ⟨_, rfl⟩
                    have hP : va_P D vwCl (mkW cR cY m0 m1 m2 (ro, sz, op, kd, tk, la, li, g266, 2)) H := by rw [eg266]; exact hP
                    have hD : va_D A (mkW cR cY m0 m1 m2 (ro, sz, op, kd, tk, la, li, g266, 2)) := kk_D_same hD rfl
                    refine lv_iconst (v := 1) hx hb dX1_code_224 (by decide) ?_
                    have hres : 1 = (mk_code (ro, sz, op, kd, tk, la, li, bt, mn) x1).1 := by
                      subst eg266 eg265 eg249
                      first | rfl | (simp only [mk_code, mk_c3, mk_cm, mk_sb, mk_by1, mk_by2, mk_by3, mk_by4, mk_c4, mk_rem, if_neg c1, if_neg c2, if_neg c3, if_pos c135, if_neg c136, if_neg (not_not_intro c250)]; done) | (simp [mk_code, mk_c3, mk_cm, mk_sb, mk_by1, mk_by2, mk_by3, mk_by4, mk_c4, mk_rem, if_neg c1, if_neg c2, if_neg c3, if_pos c135, if_neg c136, if_neg (not_not_intro c250)]; done)
                    have hre2 : (ro, sz, op, kd, tk, la, li, g266, 2) = (mk_code (ro, sz, op, kd, tk, la, li, bt, mn) x1).2 := by
                      subst eg266 eg265 eg249
                      first | rfl | (simp only [mk_code, mk_c3, mk_cm, mk_sb, mk_by1, mk_by2, mk_by3, mk_by4, mk_c4, mk_rem, if_neg c1, if_neg c2, if_neg c3, if_pos c135, if_neg c136, if_neg (not_not_intro c250)]; done) | (simp [mk_code, mk_c3, mk_cm, mk_sb, mk_by1, mk_by2, mk_by3, mk_by4, mk_c4, mk_rem, if_neg c1, if_neg c2, if_neg c3, if_pos c135, if_neg c136, if_neg (not_not_intro c250)]; done)
                    exact W.zret (v := 1) (ty := .boolean) hx hb hr rfl (fun t ht hW => ⟨⟨1, (ro, sz, op, kd, tk, la, li, g266, 2), rfl, ⟨hres, hre2⟩, by show va_P D vwCl _ t.heap; rw [ht]; exact hP⟩, hS.F ht⟩) hS.2.2 dX1_code_225
            · exact absurd c247 (by decide)
        · refine lv_iconst (v := 0) hx hb dX1_code_22 (by decide) ?_
          have hres : 0 = (mk_code (ro, sz, op, kd, tk, la, li, bt, mn) x1).1 := by
            first | rfl | (simp only [mk_code, mk_c3, mk_cm, mk_sb, mk_by1, mk_by2, mk_by3, mk_by4, mk_c4, mk_rem, if_neg c1, if_neg c2, if_neg c3, if_neg c135]; done) | (simp [mk_code, mk_c3, mk_cm, mk_sb, mk_by1, mk_by2, mk_by3, mk_by4, mk_c4, mk_rem, if_neg c1, if_neg c2, if_neg c3, if_neg c135]; done)
          have hre2 : (ro, sz, op, kd, tk, la, li, bt, mn) = (mk_code (ro, sz, op, kd, tk, la, li, bt, mn) x1).2 := by
            first | rfl | (simp only [mk_code, mk_c3, mk_cm, mk_sb, mk_by1, mk_by2, mk_by3, mk_by4, mk_c4, mk_rem, if_neg c1, if_neg c2, if_neg c3, if_neg c135]; done) | (simp [mk_code, mk_c3, mk_cm, mk_sb, mk_by1, mk_by2, mk_by3, mk_by4, mk_c4, mk_rem, if_neg c1, if_neg c2, if_neg c3, if_neg c135]; done)
          exact W.zret (v := 0) (ty := .boolean) hx hb hr rfl (fun t ht hW => ⟨⟨0, (ro, sz, op, kd, tk, la, li, bt, mn), rfl, ⟨hres, hre2⟩, by show va_P D vwCl _ t.heap; rw [ht]; exact hP⟩, hS.F ht⟩) hS.2.2 dX1_code_23
