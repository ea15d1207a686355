abbrev dkW (cA : ClassId) (q0 q1 : Nat) (u : DSt) : va_W := [(q0, .inr (0, [.ref q1, .int u.2.1, .int u.2.2.1, .int u.2.2.2.1, .int u.2.2.2.2.1, .int u.2.2.2.2.2])), (q1, .inl (cA, 4096, .inl u.1))]
abbrev dkR (l : Launch) (y : MethodName) (ws : List Cond) (rm : Room) (D : va_G) (cA : ClassId) (q0 q1 : Nat) (u : DSt) (As : List Value) (r : Int32) : Prop := Met l y ws rm (va_Pc (.ref q0 :: As) (kk_Pre D vwCl [(cA, .byte)] (dkW cA q0 q1 u))) (QcRead r) 0 0 (fun _ => False)
abbrev dkV (l : Launch) (y : MethodName) (ws : List Cond) (rm : Room) (D : va_G) (cA : ClassId) (q0 q1 : Nat) (u : DSt) (As : List Value) (v : DSt) : Prop := Met l y ws rm (va_Pc (.ref q0 :: As) (kk_Pre D vwCl [(cA, .byte)] (dkW cA q0 q1 u))) (va_Qv (fun x : DSt => x = v) (fun x t => va_P D vwCl (dkW cA q0 q1 x) t.heap) (kk_A (dkW cA q0 q1 u))) 0 0 (kk_A (dkW cA q0 q1 u))
abbrev dkI (l : Launch) (y : MethodName) (ws : List Cond) (rm : Room) (D : va_G) (cA : ClassId) (q0 q1 : Nat) (u : DSt) (As : List Value) (r : Int32) (v : DSt) : Prop := Met l y ws rm (va_Pc (.ref q0 :: As) (kk_Pre D vwCl [(cA, .byte)] (dkW cA q0 q1 u))) (va_Qi (fun (z : Int32) (x : DSt) => z = r ∧ x = v) (fun x t => va_P D vwCl (dkW cA q0 q1 x) t.heap) (kk_A (dkW cA q0 q1 u))) 0 0 (kk_A (dkW cA q0 q1 u))
abbrev dkL (l : Launch) (y : MethodName) (ws : List Cond) (rm : Room) (D : va_G) (cA : ClassId) (q0 q1 : Nat) (u : DSt) (As : List Value) (r : Int64) (v : DSt) : Prop := Met l y ws rm (va_Pc (.ref q0 :: As) (kk_Pre D vwCl [(cA, .byte)] (dkW cA q0 q1 u))) (va_Ql (fun (z : Int64) (x : DSt) => z = r ∧ x = v) (fun x t => va_P D vwCl (dkW cA q0 q1 x) t.heap) (kk_A (dkW cA q0 q1 u))) 0 0 (kk_A (dkW cA q0 q1 u))
set_option maxHeartbeats 4000000 in
set_option maxRecDepth 100000 in
theorem cD_firstByteOf (l : Launch) (x0 : Int32) : Met l yX0_firstByteOf wsX0_firstByteOf ({ frames := 0, cells := 0, slots := 0, locals := 0 }) (va_Pc [.int x0] (fun _ => True)) (QcRead (dk_fb x0)) 0 0 (fun _ => False) := by
  refine kk_ofS (cc := cX0_firstByteOf) (maxL := 1) (ret := (some .int)) (by decide) rfl (Nat.le_of_ble_eq_true rfl) ?_
  intro p e s m below meth c ls hx hb hr hts hown hlocks hml hl
  have hown : s.vm.findClass RX0 = some m.cls := hown
  have hl : lv_has ls 1 [(0, .int x0)] := hl
  refine lv_iload_n hx hb dX0_firstByteOf_0 rfl (lv_at hl 0 rfl) ?_
  rcases dk_sw4 x0 with c1 | c1 | c1 | c1 | c1
  · refine lv_tableOut (tgt := 44) hx hb dX0_firstByteOf_1 c1 (by decide) ?_
    obtain ⟨c1_0, c1_1, c1_2, c1_3⟩ := dk_ne4 c1
    refine lv_bipush (v := 45) hx hb dX0_firstByteOf_44 (by decide) ?_
    have hres : 45 = dk_fb x0 := by
      first | rfl | (simp only [dk_fb, if_neg c1_0, if_neg c1_1, if_neg c1_2, if_neg c1_3]; done) | (simp [dk_fb, if_neg c1_0, if_neg c1_1, if_neg c1_2, if_neg c1_3]; done)
    exact W.iret (v := 45) hx hb hr (fun t ht hW => ⟨congrArg (fun z => Outcome.returned (some (Value.int z))) hres, ht⟩) (fun q h => absurd h List.not_mem_nil) dX0_firstByteOf_46
  · refine lv_tableIn (tgt := 32) hx hb dX0_firstByteOf_1 (by rw [c1]; decide) (by rw [c1]; decide) (off := 31) (by rw [c1]; rfl) (by decide) ?_
    refine lv_bipush (v := 40) hx hb dX0_firstByteOf_32 (by decide) ?_
    have hres : 40 = dk_fb x0 := by
      first | (rw [c1]; rfl) | (simp only [c1, dk_fb]; done) | (simp [c1, dk_fb]; done)
    exact W.iret (v := 40) hx hb hr (fun t ht hW => ⟨congrArg (fun z => Outcome.returned (some (Value.int z))) hres, ht⟩) (fun q h => absurd h List.not_mem_nil) dX0_firstByteOf_34
  · refine lv_tableIn (tgt := 35) hx hb dX0_firstByteOf_1 (by rw [c1]; decide) (by rw [c1]; decide) (off := 34) (by rw [c1]; rfl) (by decide) ?_
    refine lv_bipush (v := 41) hx hb dX0_firstByteOf_35 (by decide) ?_
    have hres : 41 = dk_fb x0 := by
      first | (rw [c1]; rfl) | (simp only [c1, dk_fb]; done) | (simp [c1, dk_fb]; done)
    exact W.iret (v := 41) hx hb hr (fun t ht hW => ⟨congrArg (fun z => Outcome.returned (some (Value.int z))) hres, ht⟩) (fun q h => absurd h List.not_mem_nil) dX0_firstByteOf_37
  · refine lv_tableIn (tgt := 38) hx hb dX0_firstByteOf_1 (by rw [c1]; decide) (by rw [c1]; decide) (off := 37) (by rw [c1]; rfl) (by decide) ?_
    refine lv_bipush (v := 65) hx hb dX0_firstByteOf_38 (by decide) ?_
    have hres : 65 = dk_fb x0 := by
      first | (rw [c1]; rfl) | (simp only [c1, dk_fb]; done) | (simp [c1, dk_fb]; done)
    exact W.iret (v := 65) hx hb hr (fun t ht hW => ⟨congrArg (fun z => Outcome.returned (some (Value.int z))) hres, ht⟩) (fun q h => absurd h List.not_mem_nil) dX0_firstByteOf_40
  · refine lv_tableIn (tgt := 41) hx hb dX0_firstByteOf_1 (by rw [c1]; decide) (by rw [c1]; decide) (off := 40) (by rw [c1]; rfl) (by decide) ?_
    refine lv_bipush (v := 63) hx hb dX0_firstByteOf_41 (by decide) ?_
    have hres : 63 = dk_fb x0 := by
      first | (rw [c1]; rfl) | (simp only [c1, dk_fb]; done) | (simp [c1, dk_fb]; done)
    exact W.iret (v := 63) hx hb hr (fun t ht hW => ⟨congrArg (fun z => Outcome.returned (some (Value.int z))) hres, ht⟩) (fun q h => absurd h List.not_mem_nil) dX0_firstByteOf_43
set_option maxHeartbeats 4000000 in
set_option maxRecDepth 100000 in
theorem cD_isCharacter (l : Launch) (x0 : Int32) : Met l yX0_isCharacter wsX0_isCharacter ({ frames := 0, cells := 0, slots := 0, locals := 0 }) (va_Pc [.int x0] (fun _ => True)) (QcRead (dk_isC x0)) 0 0 (fun _ => False) := by
  refine kk_ofS (cc := cX0_isCharacter) (maxL := 1) (ret := (some .boolean)) (by decide) rfl (Nat.le_of_ble_eq_true rfl) ?_
  intro p e s m below meth c ls hx hb hr hts hown hlocks hml hl
  have hown : s.vm.findClass RX0 = some m.cls := hown
  have hl : lv_has ls 1 [(0, .int x0)] := hl
  refine lv_iload_n hx hb dX0_isCharacter_0 rfl (lv_at hl 0 rfl) ?_
  refine lv_if_lt (tgt := 10) hx hb dX0_isCharacter_1 (by decide) (fun c1 => ?_) (fun c1 => ?_)
  · refine lv_iload_n hx hb dX0_isCharacter_10 rfl (lv_at hl 0 rfl) ?_
    refine lv_ldc (v := 57344) hx hb hown (hts (.constant RX0 79 (57344)) (by decide +kernel)) dX0_isCharacter_11 ?_
    refine lv_icmp_lt (tgt := 26) hx hb dX0_isCharacter_13 (by decide) (fun c2 => ?_) (fun c2 => ?_)
    · refine lv_iconst (v := 0) hx hb dX0_isCharacter_26 (by decide) ?_
      have hres : 0 = dk_isC x0 := by
        first | rfl | (simp only [dk_isC, if_pos c1, if_pos c2]; done) | (simp [dk_isC, if_pos c1, if_pos c2]; done)
      exact W.zret (v := 0) (ty := .boolean) hx hb hr rfl (fun t ht hW => ⟨congrArg (fun z => Outcome.returned (some (Value.int z))) hres, ht⟩) (fun q h => absurd h List.not_mem_nil) dX0_isCharacter_27
    · refine lv_iload_n hx hb dX0_isCharacter_16 rfl (lv_at hl 0 rfl) ?_
      refine lv_ldc (v := 1114111) hx hb hown (hts (.constant RX0 80 (1114111)) (by decide +kernel)) dX0_isCharacter_17 ?_
      refine lv_icmp_gt (tgt := 26) hx hb dX0_isCharacter_19 (by decide) (fun c3 => ?_) (fun c3 => ?_)
      · refine lv_iconst (v := 0) hx hb dX0_isCharacter_26 (by decide) ?_
        have hres : 0 = dk_isC x0 := by
          first | rfl | (simp only [dk_isC, if_pos c1, if_neg c2, if_pos c3]; done) | (simp [dk_isC, if_pos c1, if_neg c2, if_pos c3]; done)
        exact W.zret (v := 0) (ty := .boolean) hx hb hr rfl (fun t ht hW => ⟨congrArg (fun z => Outcome.returned (some (Value.int z))) hres, ht⟩) (fun q h => absurd h List.not_mem_nil) dX0_isCharacter_27
      · refine lv_iconst (v := 1) hx hb dX0_isCharacter_22 (by decide) ?_
        refine lv_goto (tgt := 27) hx hb dX0_isCharacter_23 (by decide) ?_
        have hres : 1 = dk_isC x0 := by
          first | rfl | (simp only [dk_isC, if_pos c1, if_neg c2, if_neg c3]; done) | (simp [dk_isC, if_pos c1, if_neg c2, if_neg c3]; done)
        exact W.zret (v := 1) (ty := .boolean) hx hb hr rfl (fun t ht hW => ⟨congrArg (fun z => Outcome.returned (some (Value.int z))) hres, ht⟩) (fun q h => absurd h List.not_mem_nil) dX0_isCharacter_27
  · refine lv_iload_n hx hb dX0_isCharacter_4 rfl (lv_at hl 0 rfl) ?_
    refine lv_ldc (v := 55295) hx hb hown (hts (.constant RX0 78 (55295)) (by decide +kernel)) dX0_isCharacter_5 ?_
    refine lv_icmp_le (tgt := 22) hx hb dX0_isCharacter_7 (by decide) (fun c4 => ?_) (fun c4 => ?_)
    · refine lv_iconst (v := 1) hx hb dX0_isCharacter_22 (by decide) ?_
      refine lv_goto (tgt := 27) hx hb dX0_isCharacter_23 (by decide) ?_
      have hres : 1 = dk_isC x0 := by
        first | rfl | (simp only [dk_isC, if_neg c1, if_pos c4]; done) | (simp [dk_isC, if_neg c1, if_pos c4]; done)
      exact W.zret (v := 1) (ty := .boolean) hx hb hr rfl (fun t ht hW => ⟨congrArg (fun z => Outcome.returned (some (Value.int z))) hres, ht⟩) (fun q h => absurd h List.not_mem_nil) dX0_isCharacter_27
    · refine lv_iload_n hx hb dX0_isCharacter_10 rfl (lv_at hl 0 rfl) ?_
      refine lv_ldc (v := 57344) hx hb hown (hts (.constant RX0 79 (57344)) (by decide +kernel)) dX0_isCharacter_11 ?_
      refine lv_icmp_lt (tgt := 26) hx hb dX0_isCharacter_13 (by decide) (fun c5 => ?_) (fun c5 => ?_)
      · refine lv_iconst (v := 0) hx hb dX0_isCharacter_26 (by decide) ?_
        have hres : 0 = dk_isC x0 := by
          first | rfl | (simp only [dk_isC, if_neg c1, if_neg c4, if_pos c5]; done) | (simp [dk_isC, if_neg c1, if_neg c4, if_pos c5]; done)
        exact W.zret (v := 0) (ty := .boolean) hx hb hr rfl (fun t ht hW => ⟨congrArg (fun z => Outcome.returned (some (Value.int z))) hres, ht⟩) (fun q h => absurd h List.not_mem_nil) dX0_isCharacter_27
      · refine lv_iload_n hx hb dX0_isCharacter_16 rfl (lv_at hl 0 rfl) ?_
        refine lv_ldc (v := 1114111) hx hb hown (hts (.constant RX0 80 (1114111)) (by decide +kernel)) dX0_isCharacter_17 ?_
        refine lv_icmp_gt (tgt := 26) hx hb dX0_isCharacter_19 (by decide) (fun c6 => ?_) (fun c6 => ?_)
        · refine lv_iconst (v := 0) hx hb dX0_isCharacter_26 (by decide) ?_
          have hres : 0 = dk_isC x0 := by
            first | rfl | (simp only [dk_isC, if_neg c1, if_neg c4, if_neg c5, if_pos c6]; done) | (simp [dk_isC, if_neg c1, if_neg c4, if_neg c5, if_pos c6]; done)
          exact W.zret (v := 0) (ty := .boolean) hx hb hr rfl (fun t ht hW => ⟨congrArg (fun z => Outcome.returned (some (Value.int z))) hres, ht⟩) (fun q h => absurd h List.not_mem_nil) dX0_isCharacter_27
        · refine lv_iconst (v := 1) hx hb dX0_isCharacter_22 (by decide) ?_
          refine lv_goto (tgt := 27) hx hb dX0_isCharacter_23 (by decide) ?_
          have hres : 1 = dk_isC x0 := by
            first | rfl | (simp only [dk_isC, if_neg c1, if_neg c4, if_neg c5, if_neg c6]; done) | (simp [dk_isC, if_neg c1, if_neg c4, if_neg c5, if_neg c6]; done)
          exact W.zret (v := 1) (ty := .boolean) hx hb hr rfl (fun t ht hW => ⟨congrArg (fun z => Outcome.returned (some (Value.int z))) hres, ht⟩) (fun q h => absurd h List.not_mem_nil) dX0_isCharacter_27
set_option maxHeartbeats 4000000 in
set_option maxRecDepth 100000 in
theorem cD_escapedFormOf (l : Launch) (x0 : Int32) : Met l yX0_escapedFormOf wsX0_escapedFormOf ({ frames := 0, cells := 0, slots := 0, locals := 0 }) (va_Pc [.int x0] (fun _ => True)) (QcRead (dk_esc x0)) 0 0 (fun _ => False) := by
  refine kk_ofS (cc := cX0_escapedFormOf) (maxL := 1) (ret := (some .int)) (by decide) rfl (Nat.le_of_ble_eq_true rfl) ?_
  intro p e s m below meth c ls hx hb hr hts hown hlocks hml hl
  have hown : s.vm.findClass RX0 = some m.cls := hown
  have hl : lv_has ls 1 [(0, .int x0)] := hl
  refine lv_iload_n hx hb dX0_escapedFormOf_0 rfl (lv_at hl 0 rfl) ?_
  by_cases c1 : x0 = 9
  · refine lv_lookup (tgt := 50) hx hb dX0_escapedFormOf_1 (by decide) (off := 49) (by rw [c1]; rfl) (by decide) ?_
    refine lv_bipush (v := 116) hx hb dX0_escapedFormOf_50 (by decide) ?_
    have hres : 116 = dk_esc x0 := by
      first | rfl | (simp only [dk_esc, if_pos c1]; done) | (simp [dk_esc, if_pos c1]; done)
    exact W.iret (v := 116) hx hb hr (fun t ht hW => ⟨congrArg (fun z => Outcome.returned (some (Value.int z))) hres, ht⟩) (fun q h => absurd h List.not_mem_nil) dX0_escapedFormOf_52
  · by_cases c2 : x0 = 10
    · refine lv_lookup (tgt := 47) hx hb dX0_escapedFormOf_1 (by decide) (off := 46) (by rw [c2]; rfl) (by decide) ?_
      refine lv_bipush (v := 110) hx hb dX0_escapedFormOf_47 (by decide) ?_
      have hres : 110 = dk_esc x0 := by
        first | rfl | (simp only [dk_esc, if_neg c1, if_pos c2]; done) | (simp [dk_esc, if_neg c1, if_pos c2]; done)
      exact W.iret (v := 110) hx hb hr (fun t ht hW => ⟨congrArg (fun z => Outcome.returned (some (Value.int z))) hres, ht⟩) (fun q h => absurd h List.not_mem_nil) dX0_escapedFormOf_49
    · by_cases c3 : x0 = 13
      · refine lv_lookup (tgt := 53) hx hb dX0_escapedFormOf_1 (by decide) (off := 52) (by rw [c3]; rfl) (by decide) ?_
        refine lv_bipush (v := 114) hx hb dX0_escapedFormOf_53 (by decide) ?_
        have hres : 114 = dk_esc x0 := by
          first | rfl | (simp only [dk_esc, if_neg c1, if_neg c2, if_pos c3]; done) | (simp [dk_esc, if_neg c1, if_neg c2, if_pos c3]; done)
        exact W.iret (v := 114) hx hb hr (fun t ht hW => ⟨congrArg (fun z => Outcome.returned (some (Value.int z))) hres, ht⟩) (fun q h => absurd h List.not_mem_nil) dX0_escapedFormOf_55
      · by_cases c4 : x0 = 92
        · refine lv_lookup (tgt := 44) hx hb dX0_escapedFormOf_1 (by decide) (off := 43) (by rw [c4]; rfl) (by decide) ?_
          refine lv_bipush (v := 92) hx hb dX0_escapedFormOf_44 (by decide) ?_
          have hres : 92 = dk_esc x0 := by
            first | rfl | (simp only [dk_esc, if_neg c1, if_neg c2, if_neg c3, if_pos c4]; done) | (simp [dk_esc, if_neg c1, if_neg c2, if_neg c3, if_pos c4]; done)
          exact W.iret (v := 92) hx hb hr (fun t ht hW => ⟨congrArg (fun z => Outcome.returned (some (Value.int z))) hres, ht⟩) (fun q h => absurd h List.not_mem_nil) dX0_escapedFormOf_46
        · refine lv_lookup (tgt := 56) hx hb dX0_escapedFormOf_1 (by decide) (off := 55) (by rw [lv_osw c1 (by decide), lv_osw c2 (by decide), lv_osw c3 (by decide), lv_osw c4 (by decide)]; rfl) (by decide) ?_
          refine lv_iconst (v := 0) hx hb dX0_escapedFormOf_56 (by decide) ?_
          have hres : 0 = dk_esc x0 := by
            first | rfl | (simp only [dk_esc, if_neg c1, if_neg c2, if_neg c3, if_neg c4]; done) | (simp [dk_esc, if_neg c1, if_neg c2, if_neg c3, if_neg c4]; done)
          exact W.iret (v := 0) hx hb hr (fun t ht hW => ⟨congrArg (fun z => Outcome.returned (some (Value.int z))) hres, ht⟩) (fun q h => absurd h List.not_mem_nil) dX0_escapedFormOf_57
set_option maxHeartbeats 4000000 in
set_option maxRecDepth 100000 in
theorem cD_sizeOf (l : Launch) (x0 : Int32) : Met l yX0_sizeOf wsX0_sizeOf ({ frames := 1, cells := 0, slots := 0, locals := 20 }) (va_Pc [.int x0] (fun _ => True)) (QcRead (dk_size x0)) 0 0 (fun _ => False) := by
  refine kk_ofS (cc := cX0_sizeOf) (maxL := 1) (ret := (some .int)) (by decide) rfl (Nat.le_of_ble_eq_true rfl) ?_
  intro p e s m below meth c ls hx hb hr hts hown hlocks hml hl
  have hown : s.vm.findClass RX0 = some m.cls := hown
  have hl : lv_has ls 1 [(0, .int x0)] := hl
  refine lv_iload_n hx hb dX0_sizeOf_0 rfl (lv_at hl 0 rfl) ?_
  refine kk_readS (rest := []) ⟨hx, hb, hml, hown, hts⟩ (cD_escapedFormOf l x0) (cwS 1 hts gX0_sizeOf_X0_escapedFormOf rfl rfl rfl (by decide +kernel) ⟨Nat.le_of_ble_eq_true rfl, Nat.le_of_ble_eq_true rfl⟩) rfl hl.1 rfl (Nat.le_of_ble_eq_true rfl) dX0_sizeOf_1 ⟨Nat.zero_le _, Nat.zero_le _⟩ ?_
  refine lv_topi (fun t1 et1 => ?_)
  refine lv_if_eq (tgt := 9) hx hb dX0_sizeOf_4 (by decide) (fun c2 => ?_) (fun c2 => ?_)
  · refine lv_iload_n hx hb dX0_sizeOf_9 rfl (lv_at hl 0 rfl) ?_
    refine lv_sipush (v := 128) hx hb dX0_sizeOf_10 (by decide) ?_
    refine lv_icmp_ge (tgt := 18) hx hb dX0_sizeOf_13 (by decide) (fun c3 => ?_) (fun c3 => ?_)
    · refine lv_iload_n hx hb dX0_sizeOf_18 rfl (lv_at hl 0 rfl) ?_
      refine lv_sipush (v := 2048) hx hb dX0_sizeOf_19 (by decide) ?_
      refine lv_icmp_ge (tgt := 27) hx hb dX0_sizeOf_22 (by decide) (fun c4 => ?_) (fun c4 => ?_)
      · refine lv_iload_n hx hb dX0_sizeOf_27 rfl (lv_at hl 0 rfl) ?_
        refine lv_ldc (v := 65536) hx hb hown (hts (.constant RX0 84 (65536)) (by decide +kernel)) dX0_sizeOf_28 ?_
        refine lv_icmp_ge (tgt := 37) hx hb dX0_sizeOf_30 (by decide) (fun c5 => ?_) (fun c5 => ?_)
        · refine lv_iconst (v := 4) hx hb dX0_sizeOf_37 (by decide) ?_
          have hres : 4 = dk_size x0 := by
            subst et1
            first | rfl | (simp only [dk_size, if_pos c2, if_pos c3, if_pos c4, if_pos c5]; done) | (simp [dk_size, if_pos c2, if_pos c3, if_pos c4, if_pos c5]; done)
          exact W.iret (v := 4) hx hb hr (fun t ht hW => ⟨congrArg (fun z => Outcome.returned (some (Value.int z))) hres, ht⟩) (fun q h => absurd h List.not_mem_nil) dX0_sizeOf_38
        · refine lv_iconst (v := 3) hx hb dX0_sizeOf_33 (by decide) ?_
          refine lv_goto (tgt := 38) hx hb dX0_sizeOf_34 (by decide) ?_
          have hres : 3 = dk_size x0 := by
            subst et1
            first | rfl | (simp only [dk_size, if_pos c2, if_pos c3, if_pos c4, if_neg c5]; done) | (simp [dk_size, if_pos c2, if_pos c3, if_pos c4, if_neg c5]; done)
          exact W.iret (v := 3) hx hb hr (fun t ht hW => ⟨congrArg (fun z => Outcome.returned (some (Value.int z))) hres, ht⟩) (fun q h => absurd h List.not_mem_nil) dX0_sizeOf_38
      · refine lv_iconst (v := 2) hx hb dX0_sizeOf_25 (by decide) ?_
        have hres : 2 = dk_size x0 := by
          subst et1
          first | rfl | (simp only [dk_size, if_pos c2, if_pos c3, if_neg c4]; done) | (simp [dk_size, if_pos c2, if_pos c3, if_neg c4]; done)
        exact W.iret (v := 2) hx hb hr (fun t ht hW => ⟨congrArg (fun z => Outcome.returned (some (Value.int z))) hres, ht⟩) (fun q h => absurd h List.not_mem_nil) dX0_sizeOf_26
    · refine lv_iconst (v := 1) hx hb dX0_sizeOf_16 (by decide) ?_
      have hres : 1 = dk_size x0 := by
        subst et1
        first | rfl | (simp only [dk_size, if_pos c2, if_neg c3]; done) | (simp [dk_size, if_pos c2, if_neg c3]; done)
      exact W.iret (v := 1) hx hb hr (fun t ht hW => ⟨congrArg (fun z => Outcome.returned (some (Value.int z))) hres, ht⟩) (fun q h => absurd h List.not_mem_nil) dX0_sizeOf_17
  · refine lv_iconst (v := 2) hx hb dX0_sizeOf_7 (by decide) ?_
    have hres : 2 = dk_size x0 := by
      subst et1
      first | rfl | (simp only [dk_size, if_neg c2]; done) | (simp [dk_size, if_neg c2]; done)
    exact W.iret (v := 2) hx hb hr (fun t ht hW => ⟨congrArg (fun z => Outcome.returned (some (Value.int z))) hres, ht⟩) (fun q h => absurd h List.not_mem_nil) dX0_sizeOf_8
set_option maxHeartbeats 4000000 in
set_option maxRecDepth 100000 in
theorem cD_byteAt (l : Launch) (D : va_G) (cA : ClassId) (q0 q1 : Nat) (rg : Nat → Int32) (tt tk en ki os : Int32) (x1 : Int32) : dkR l yX0_byteAt wsX0_byteAt ({ frames := 0, cells := 0, slots := 0, locals := 0 }) D cA q0 q1 (rg, tt, tk, en, ki, os) [.int x1] (dk_at (rg, tt, tk, en, ki, os) x1) := by
  refine kk_of (cc := cX0_byteAt) (maxL := 3) (ret := (some .int)) (by decide) rfl (Nat.le_of_ble_eq_true rfl) ?_
  intro p e s m below meth c ls hx hb hr hts hown hlocks hml hnm hP hK hD hl
  have hown : s.vm.findClass RX0 = some m.cls := hown
  have hl : lv_has ls 3 [(0, .ref q0), (1, .int x1)] := hl
  have hin : ∀ w ∈ wsX00, w ∈ wsX0_byteAt := by decide +kernel
  have lk9 := hts (.fieldLink RX0 9 "EventLineDesk" "ring" "[B") (by decide +kernel)
  refine lv_iload_n hx hb dX0_byteAt_0 rfl (lv_at hl 1 rfl) ?_
  refine lv_sipush (v := 4095) hx hb dX0_byteAt_1 (by decide) ?_
  refine lv_iand hx hb dX0_byteAt_4 ?_
  refine lv_topi (fun t1 et1 => ?_)
  refine lv_istore_n (lv' := [(2, .int t1), (0, .ref q0), (1, .int x1)]) hx hb dX0_byteAt_5 rfl hl (by decide) rfl (fun ls hl => ?_)
  refine lv_iload_n hx hb dX0_byteAt_6 rfl (lv_at hl 0 rfl) ?_
  refine lv_aload_n hx hb dX0_byteAt_7 rfl (lv_at hl 1 rfl) ?_
  refine va_get (D := D) (ci := 0) (v := .ref q1) (C := RX0) (T := TX0) (N := 6) hx hb hts hin hown hK hP 0 rfl rfl 0 (by decide) lk9 (fun _ h9 => h9) rfl dX0_byteAt_8 ?_
  refine va_alen (v := 4096) hx hb hK hP 1 0 rfl rfl (show Int32.ofNat 4096 = 4096 from by decide) dX0_byteAt_11 ?_
  refine lv_icmp_ge (tgt := 28) hx hb dX0_byteAt_12 (by decide) (fun c2 => ?_) (fun c2 => ?_)
  · exact absurd c2 (by rw [et1]; exact dk_mlt _)
  · refine lv_aload_n hx hb dX0_byteAt_15 rfl (lv_at hl 1 rfl) ?_
    refine va_get (D := D) (ci := 0) (v := .ref q1) (C := RX0) (T := TX0) (N := 6) hx hb hts hin hown hK hP 0 rfl rfl 0 (by decide) lk9 (fun _ h9 => h9) rfl dX0_byteAt_16 ?_
    refine lv_iload_n hx hb dX0_byteAt_19 rfl (lv_at hl 0 rfl) ?_
    refine va_bald hx hb hK hP 1 0 rfl rfl (by rw [et1]; exact dk_mask _) dX0_byteAt_20 ?_
    refine lv_topi (fun t3 et3 => ?_)
    refine lv_sipush (v := 255) hx hb dX0_byteAt_21 (by decide) ?_
    refine lv_iand hx hb dX0_byteAt_24 ?_
    refine lv_topi (fun t4 et4 => ?_)
    refine lv_goto (tgt := 29) hx hb dX0_byteAt_25 (by decide) ?_
    have hres : t4 = dk_at (rg, tt, tk, en, ki, os) x1 := by
      subst et4 et3 et1
      first | rfl | (simp only [dk_at, if_neg c2]; done) | (simp [dk_at, if_neg c2]; done)
    exact W.iret (v := t4) hx hb hr (fun t ht hW => ⟨congrArg (fun z => Outcome.returned (some (Value.int z))) hres, ht⟩) (fun q h => absurd h List.not_mem_nil) dX0_byteAt_29
set_option maxHeartbeats 4000000 in
set_option maxRecDepth 100000 in
theorem cD_hasRoomFor (l : Launch) (D : va_G) (cA : ClassId) (q0 q1 : Nat) (rg : Nat → Int32) (tt tk en ki os : Int32) (x1 : Int32) : dkR l yX0_hasRoomFor wsX0_hasRoomFor ({ frames := 0, cells := 0, slots := 0, locals := 0 }) D cA q0 q1 (rg, tt, tk, en, ki, os) [.int x1] (dk_room (rg, tt, tk, en, ki, os) x1) := by
  refine kk_of (cc := cX0_hasRoomFor) (maxL := 2) (ret := (some .boolean)) (by decide) rfl (Nat.le_of_ble_eq_true rfl) ?_
  intro p e s m below meth c ls hx hb hr hts hown hlocks hml hnm hP hK hD hl
  have hown : s.vm.findClass RX0 = some m.cls := hown
  have hl : lv_has ls 2 [(0, .ref q0), (1, .int x1)] := hl
  have hin : ∀ w ∈ wsX00, w ∈ wsX0_hasRoomFor := by decide +kernel
  have lk13 := hts (.fieldLink RX0 13 "EventLineDesk" "total" "I") (by decide +kernel)
  have lk17 := hts (.fieldLink RX0 17 "EventLineDesk" "taken" "I") (by decide +kernel)
  refine lv_aload_n hx hb dX0_hasRoomFor_0 rfl (lv_at hl 0 rfl) ?_
  refine va_get (D := D) (ci := 0) (v := .int tt) (C := RX0) (T := TX0) (N := 6) hx hb hts hin hown hK hP 0 rfl rfl 1 (by decide) lk13 (fun _ h9 => h9) rfl dX0_hasRoomFor_1 ?_
  refine lv_aload_n hx hb dX0_hasRoomFor_4 rfl (lv_at hl 0 rfl) ?_
  refine va_get (D := D) (ci := 0) (v := .int tk) (C := RX0) (T := TX0) (N := 6) hx hb hts hin hown hK hP 0 rfl rfl 2 (by decide) lk17 (fun _ h9 => h9) rfl dX0_hasRoomFor_5 ?_
  refine lv_isub hx hb dX0_hasRoomFor_8 ?_
  refine lv_topi (fun t1 et1 => ?_)
  refine lv_iload_n hx hb dX0_hasRoomFor_9 rfl (lv_at hl 1 rfl) ?_
  refine lv_iadd hx hb dX0_hasRoomFor_10 ?_
  refine lv_topi (fun t2 et2 => ?_)
  refine lv_iconst (v := 1) hx hb dX0_hasRoomFor_11 (by decide) ?_
  refine lv_iadd hx hb dX0_hasRoomFor_12 ?_
  refine lv_topi (fun t3 et3 => ?_)
  refine lv_sipush (v := 3000) hx hb dX0_hasRoomFor_13 (by decide) ?_
  refine lv_icmp_gt (tgt := 23) hx hb dX0_hasRoomFor_16 (by decide) (fun c4 => ?_) (fun c4 => ?_)
  · refine lv_iconst (v := 0) hx hb dX0_hasRoomFor_23 (by decide) ?_
    have hres : 0 = dk_room (rg, tt, tk, en, ki, os) x1 := by
      subst et3 et2 et1
      first | rfl | (simp only [dk_room, if_pos c4]; done) | (simp [dk_room, if_pos c4]; done)
    exact W.zret (v := 0) (ty := .boolean) hx hb hr rfl (fun t ht hW => ⟨congrArg (fun z => Outcome.returned (some (Value.int z))) hres, ht⟩) (fun q h => absurd h List.not_mem_nil) dX0_hasRoomFor_24
  · refine lv_iconst (v := 1) hx hb dX0_hasRoomFor_19 (by decide) ?_
    refine lv_goto (tgt := 24) hx hb dX0_hasRoomFor_20 (by decide) ?_
    have hres : 1 = dk_room (rg, tt, tk, en, ki, os) x1 := by
      subst et3 et2 et1
      first | rfl | (simp only [dk_room, if_neg c4]; done) | (simp [dk_room, if_neg c4]; done)
    exact W.zret (v := 1) (ty := .boolean) hx hb hr rfl (fun t ht hW => ⟨congrArg (fun z => Outcome.returned (some (Value.int z))) hres, ht⟩) (fun q h => absurd h List.not_mem_nil) dX0_hasRoomFor_24
set_option maxHeartbeats 4000000 in
set_option maxRecDepth 100000 in
theorem cD_bytesToOpen (l : Launch) (D : va_G) (cA : ClassId) (q0 q1 : Nat) (rg : Nat → Int32) (tt tk en ki os : Int32)  : dkR l yX0_bytesToOpen wsX0_bytesToOpen ({ frames := 0, cells := 0, slots := 0, locals := 0 }) D cA q0 q1 (rg, tt, tk, en, ki, os) [] (dk_bto (rg, tt, tk, en, ki, os)) := by
  refine kk_of (cc := cX0_bytesToOpen) (maxL := 1) (ret := (some .int)) (by decide) rfl (Nat.le_of_ble_eq_true rfl) ?_
  intro p e s m below meth c ls hx hb hr hts hown hlocks hml hnm hP hK hD hl
  have hown : s.vm.findClass RX0 = some m.cls := hown
  have hl : lv_has ls 1 [(0, .ref q0)] := hl
  have hin : ∀ w ∈ wsX00, w ∈ wsX0_bytesToOpen := by decide +kernel
  have lk23 := hts (.fieldLink RX0 23 "EventLineDesk" "openKind" "I") (by decide +kernel)
  refine lv_aload_n hx hb dX0_bytesToOpen_0 rfl (lv_at hl 0 rfl) ?_
  refine va_get (D := D) (ci := 0) (v := .int ki) (C := RX0) (T := TX0) (N := 6) hx hb hts hin hown hK hP 0 rfl rfl 4 (by decide) lk23 (fun _ h9 => h9) rfl dX0_bytesToOpen_1 ?_
  refine lv_iconst (v := (-1)) hx hb dX0_bytesToOpen_4 (by decide) ?_
  refine lv_icmp_ne (tgt := 12) hx hb dX0_bytesToOpen_5 (by decide) (fun c1 => ?_) (fun c1 => ?_)
  · refine lv_iconst (v := 2) hx hb dX0_bytesToOpen_12 (by decide) ?_
    have hres : 2 = dk_bto (rg, tt, tk, en, ki, os) := by
      first | rfl | (simp only [dk_bto, if_pos c1]; done) | (simp [dk_bto, if_pos c1]; done)
    exact W.iret (v := 2) hx hb hr (fun t ht hW => ⟨congrArg (fun z => Outcome.returned (some (Value.int z))) hres, ht⟩) (fun q h => absurd h List.not_mem_nil) dX0_bytesToOpen_13
  · refine lv_iconst (v := 1) hx hb dX0_bytesToOpen_8 (by decide) ?_
    refine lv_goto (tgt := 13) hx hb dX0_bytesToOpen_9 (by decide) ?_
    have hres : 1 = dk_bto (rg, tt, tk, en, ki, os) := by
      first | rfl | (simp only [dk_bto, if_neg (not_not_intro c1)]; done) | (simp [dk_bto, if_neg (not_not_intro c1)]; done)
    exact W.iret (v := 1) hx hb hr (fun t ht hW => ⟨congrArg (fun z => Outcome.returned (some (Value.int z))) hres, ht⟩) (fun q h => absurd h List.not_mem_nil) dX0_bytesToOpen_13
set_option maxHeartbeats 4000000 in
set_option maxRecDepth 100000 in
theorem cD_endOfEndedLines (l : Launch) (D : va_G) (cA : ClassId) (q0 q1 : Nat) (rg : Nat → Int32) (tt tk en ki os : Int32)  : dkR l yX0_endOfEndedLines wsX0_endOfEndedLines ({ frames := 0, cells := 0, slots := 0, locals := 0 }) D cA q0 q1 (rg, tt, tk, en, ki, os) [] (dk_eoe (rg, tt, tk, en, ki, os)) := by
  refine kk_of (cc := cX0_endOfEndedLines) (maxL := 1) (ret := (some .int)) (by decide) rfl (Nat.le_of_ble_eq_true rfl) ?_
  intro p e s m below meth c ls hx hb hr hts hown hlocks hml hnm hP hK hD hl
  have hown : s.vm.findClass RX0 = some m.cls := hown
  have hl : lv_has ls 1 [(0, .ref q0)] := hl
  have hin : ∀ w ∈ wsX00, w ∈ wsX0_endOfEndedLines := by decide +kernel
  have lk23 := hts (.fieldLink RX0 23 "EventLineDesk" "openKind" "I") (by decide +kernel)
  have lk13 := hts (.fieldLink RX0 13 "EventLineDesk" "total" "I") (by decide +kernel)
  have lk26 := hts (.fieldLink RX0 26 "EventLineDesk" "openStart" "I") (by decide +kernel)
  refine lv_aload_n hx hb dX0_endOfEndedLines_0 rfl (lv_at hl 0 rfl) ?_
  refine va_get (D := D) (ci := 0) (v := .int ki) (C := RX0) (T := TX0) (N := 6) hx hb hts hin hown hK hP 0 rfl rfl 4 (by decide) lk23 (fun _ h9 => h9) rfl dX0_endOfEndedLines_1 ?_
  refine lv_iconst (v := (-1)) hx hb dX0_endOfEndedLines_4 (by decide) ?_
  refine lv_icmp_ne (tgt := 15) hx hb dX0_endOfEndedLines_5 (by decide) (fun c1 => ?_) (fun c1 => ?_)
  · refine lv_aload_n hx hb dX0_endOfEndedLines_15 rfl (lv_at hl 0 rfl) ?_
    refine va_get (D := D) (ci := 0) (v := .int os) (C := RX0) (T := TX0) (N := 6) hx hb hts hin hown hK hP 0 rfl rfl 5 (by decide) lk26 (fun _ h9 => h9) rfl dX0_endOfEndedLines_16 ?_
    have hres : os = dk_eoe (rg, tt, tk, en, ki, os) := by
      first | rfl | (simp only [dk_eoe, if_pos c1]; done) | (simp [dk_eoe, if_pos c1]; done)
    exact W.iret (v := os) hx hb hr (fun t ht hW => ⟨congrArg (fun z => Outcome.returned (some (Value.int z))) hres, ht⟩) (fun q h => absurd h List.not_mem_nil) dX0_endOfEndedLines_19
  · refine lv_aload_n hx hb dX0_endOfEndedLines_8 rfl (lv_at hl 0 rfl) ?_
    refine va_get (D := D) (ci := 0) (v := .int tt) (C := RX0) (T := TX0) (N := 6) hx hb hts hin hown hK hP 0 rfl rfl 1 (by decide) lk13 (fun _ h9 => h9) rfl dX0_endOfEndedLines_9 ?_
    refine lv_goto (tgt := 19) hx hb dX0_endOfEndedLines_12 (by decide) ?_
    have hres : tt = dk_eoe (rg, tt, tk, en, ki, os) := by
      first | rfl | (simp only [dk_eoe, if_neg (not_not_intro c1)]; done) | (simp [dk_eoe, if_neg (not_not_intro c1)]; done)
    exact W.iret (v := tt) hx hb hr (fun t ht hW => ⟨congrArg (fun z => Outcome.returned (some (Value.int z))) hres, ht⟩) (fun q h => absurd h List.not_mem_nil) dX0_endOfEndedLines_19
set_option maxHeartbeats 4000000 in
set_option maxRecDepth 100000 in
theorem cD_isBetweenLines (l : Launch) (D : va_G) (cA : ClassId) (q0 q1 : Nat) (rg : Nat → Int32) (tt tk en ki os : Int32) (x1 : Int32) : dkR l yX0_isBetweenLines wsX0_isBetweenLines ({ frames := 1, cells := 0, slots := 0, locals := 22 }) D cA q0 q1 (rg, tt, tk, en, ki, os) [.int x1] (dk_btw (rg, tt, tk, en, ki, os) x1) := by
  refine kk_of (cc := cX0_isBetweenLines) (maxL := 2) (ret := (some .boolean)) (by decide) rfl (Nat.le_of_ble_eq_true rfl) ?_
  intro p e s m below meth c ls hx hb hr hts hown hlocks hml hnm hP hK hD hl
  have hown : s.vm.findClass RX0 = some m.cls := hown
  have hl : lv_has ls 2 [(0, .ref q0), (1, .int x1)] := hl
  have hin : ∀ w ∈ wsX00, w ∈ wsX0_isBetweenLines := by decide +kernel
  refine lv_iload_n hx hb dX0_isBetweenLines_0 rfl (lv_at hl 1 rfl) ?_
  refine lv_if_eq (tgt := 16) hx hb dX0_isBetweenLines_1 (by decide) (fun c1 => ?_) (fun c1 => ?_)
  · refine lv_iconst (v := 1) hx hb dX0_isBetweenLines_16 (by decide) ?_
    refine lv_goto (tgt := 21) hx hb dX0_isBetweenLines_17 (by decide) ?_
    have hres : 1 = dk_btw (rg, tt, tk, en, ki, os) x1 := by
      first | rfl | (simp only [dk_btw, if_pos c1]; done) | (simp [dk_btw, if_pos c1]; done)
    exact W.zret (v := 1) (ty := .boolean) hx hb hr rfl (fun t ht hW => ⟨congrArg (fun z => Outcome.returned (some (Value.int z))) hres, ht⟩) (fun q h => absurd h List.not_mem_nil) dX0_isBetweenLines_21
  · refine lv_aload_n hx hb dX0_isBetweenLines_4 rfl (lv_at hl 0 rfl) ?_
    refine lv_iload_n hx hb dX0_isBetweenLines_5 rfl (lv_at hl 1 rfl) ?_
    refine lv_iconst (v := 1) hx hb dX0_isBetweenLines_6 (by decide) ?_
    refine lv_isub hx hb dX0_isBetweenLines_7 ?_
    refine lv_topi (fun t2 et2 => ?_)
    refine kk_readV (ci := 0) (q0 := 0) (rest := []) ⟨hx, hb, hml, hown, hts⟩ (cD_byteAt l D cA q0 q1 rg tt tk en ki os t2) (cwV 1 hts gX0_isBetweenLines_X0_byteAt rfl rfl rfl (by decide +kernel) ⟨Nat.le_of_ble_eq_true rfl, Nat.le_of_ble_eq_true rfl⟩) hK hP hD rfl rfl rfl hl.1 rfl (Nat.le_of_ble_eq_true rfl) dX0_isBetweenLines_8 ⟨Nat.zero_le _, Nat.zero_le _⟩ ?_
    refine lv_topi (fun t3 et3 => ?_)
    refine lv_bipush (v := 10) hx hb dX0_isBetweenLines_11 (by decide) ?_
    refine lv_icmp_ne (tgt := 20) hx hb dX0_isBetweenLines_13 (by decide) (fun c4 => ?_) (fun c4 => ?_)
    · refine lv_iconst (v := 0) hx hb dX0_isBetweenLines_20 (by decide) ?_
      have hres : 0 = dk_btw (rg, tt, tk, en, ki, os) x1 := by
        subst et3 et2
        first | rfl | (simp only [dk_btw, if_neg c1, if_pos c4]; done) | (simp [dk_btw, if_neg c1, if_pos c4]; done)
      exact W.zret (v := 0) (ty := .boolean) hx hb hr rfl (fun t ht hW => ⟨congrArg (fun z => Outcome.returned (some (Value.int z))) hres, ht⟩) (fun q h => absurd h List.not_mem_nil) dX0_isBetweenLines_21
    · refine lv_iconst (v := 1) hx hb dX0_isBetweenLines_16 (by decide) ?_
      refine lv_goto (tgt := 21) hx hb dX0_isBetweenLines_17 (by decide) ?_
      have hres : 1 = dk_btw (rg, tt, tk, en, ki, os) x1 := by
        subst et3 et2
        first | rfl | (simp only [dk_btw, if_neg c1, if_neg (not_not_intro c4)]; done) | (simp [dk_btw, if_neg c1, if_neg (not_not_intro c4)]; done)
      exact W.zret (v := 1) (ty := .boolean) hx hb hr rfl (fun t ht hW => ⟨congrArg (fun z => Outcome.returned (some (Value.int z))) hres, ht⟩) (fun q h => absurd h List.not_mem_nil) dX0_isBetweenLines_21
set_option maxHeartbeats 4000000 in
set_option maxRecDepth 100000 in
theorem cD_mark (l : Launch) (D : va_G) (cA : ClassId) (q0 q1 : Nat) (rg : Nat → Int32) (tt tk en ki os : Int32)  : dkR l yX0_mark wsX0_mark ({ frames := 0, cells := 0, slots := 0, locals := 0 }) D cA q0 q1 (rg, tt, tk, en, ki, os) [] (dk_mark (rg, tt, tk, en, ki, os)) := by
  refine kk_of (cc := cX0_mark) (maxL := 1) (ret := (some .int)) (by decide) rfl (Nat.le_of_ble_eq_true rfl) ?_
  intro p e s m below meth c ls hx hb hr hts hown hlocks hml hnm hP hK hD hl
  have hown : s.vm.findClass RX0 = some m.cls := hown
  have hl : lv_has ls 1 [(0, .ref q0)] := hl
  have hin : ∀ w ∈ wsX00, w ∈ wsX0_mark := by decide +kernel
  have lk23 := hts (.fieldLink RX0 23 "EventLineDesk" "openKind" "I") (by decide +kernel)
  have lk13 := hts (.fieldLink RX0 13 "EventLineDesk" "total" "I") (by decide +kernel)
  refine lv_aload_n hx hb dX0_mark_0 rfl (lv_at hl 0 rfl) ?_
  refine va_get (D := D) (ci := 0) (v := .int ki) (C := RX0) (T := TX0) (N := 6) hx hb hts hin hown hK hP 0 rfl rfl 4 (by decide) lk23 (fun _ h9 => h9) rfl dX0_mark_1 ?_
  refine lv_iconst (v := (-1)) hx hb dX0_mark_4 (by decide) ?_
  refine lv_icmp_ne (tgt := 15) hx hb dX0_mark_5 (by decide) (fun c1 => ?_) (fun c1 => ?_)
  · refine lv_iconst (v := (-1)) hx hb dX0_mark_15 (by decide) ?_
    have hres : (-1) = dk_mark (rg, tt, tk, en, ki, os) := by
      first | rfl | (simp only [dk_mark, if_pos c1]; done) | (simp [dk_mark, if_pos c1]; done)
    exact W.iret (v := (-1)) hx hb hr (fun t ht hW => ⟨congrArg (fun z => Outcome.returned (some (Value.int z))) hres, ht⟩) (fun q h => absurd h List.not_mem_nil) dX0_mark_16
  · refine lv_aload_n hx hb dX0_mark_8 rfl (lv_at hl 0 rfl) ?_
    refine va_get (D := D) (ci := 0) (v := .int tt) (C := RX0) (T := TX0) (N := 6) hx hb hts hin hown hK hP 0 rfl rfl 1 (by decide) lk13 (fun _ h9 => h9) rfl dX0_mark_9 ?_
    refine lv_goto (tgt := 16) hx hb dX0_mark_12 (by decide) ?_
    have hres : tt = dk_mark (rg, tt, tk, en, ki, os) := by
      first | rfl | (simp only [dk_mark, if_neg (not_not_intro c1)]; done) | (simp [dk_mark, if_neg (not_not_intro c1)]; done)
    exact W.iret (v := tt) hx hb hr (fun t ht hW => ⟨congrArg (fun z => Outcome.returned (some (Value.int z))) hres, ht⟩) (fun q h => absurd h List.not_mem_nil) dX0_mark_16
set_option maxHeartbeats 4000000 in
set_option maxRecDepth 100000 in
theorem cD_count (l : Launch) (D : va_G) (cA : ClassId) (q0 q1 : Nat) (rg : Nat → Int32) (tt tk en ki os : Int32) (x1 : Int32) : dkR l yX0_count wsX0_count ({ frames := 1, cells := 0, slots := 0, locals := 20 }) D cA q0 q1 (rg, tt, tk, en, ki, os) [.int x1] (dk_count (rg, tt, tk, en, ki, os) x1) := by
  refine kk_of (cc := cX0_count) (maxL := 2) (ret := (some .int)) (by decide) rfl (Nat.le_of_ble_eq_true rfl) ?_
  intro p e s m below meth c ls hx hb hr hts hown hlocks hml hnm hP hK hD hl
  have hown : s.vm.findClass RX0 = some m.cls := hown
  have hl : lv_has ls 2 [(0, .ref q0), (1, .int x1)] := hl
  have hin : ∀ w ∈ wsX00, w ∈ wsX0_count := by decide +kernel
  have lk13 := hts (.fieldLink RX0 13 "EventLineDesk" "total" "I") (by decide +kernel)
  have lk17 := hts (.fieldLink RX0 17 "EventLineDesk" "taken" "I") (by decide +kernel)
  have lk20 := hts (.fieldLink RX0 20 "EventLineDesk" "endedLines" "I") (by decide +kernel)
  have lk23 := hts (.fieldLink RX0 23 "EventLineDesk" "openKind" "I") (by decide +kernel)
  refine lv_iload_n hx hb dX0_count_0 rfl (lv_at hl 1 rfl) ?_
  rcases dk_sw4 x1 with c1 | c1 | c1 | c1 | c1
  · refine lv_tableOut (tgt := 62) hx hb dX0_count_1 c1 (by decide) ?_
    obtain ⟨c1_0, c1_1, c1_2, c1_3⟩ := dk_ne4 c1
    refine lv_iconst (v := (-1)) hx hb dX0_count_62 (by decide) ?_
    have hres : (-1) = dk_count (rg, tt, tk, en, ki, os) x1 := by
      first | rfl | (simp only [dk_count, if_neg c1_0, if_neg c1_1, if_neg c1_2, if_neg c1_3]; done) | (simp [dk_count, if_neg c1_0, if_neg c1_1, if_neg c1_2, if_neg c1_3]; done)
    exact W.iret (v := (-1)) hx hb hr (fun t ht hW => ⟨congrArg (fun z => Outcome.returned (some (Value.int z))) hres, ht⟩) (fun q h => absurd h List.not_mem_nil) dX0_count_63
  · refine lv_tableIn (tgt := 32) hx hb dX0_count_1 (by rw [c1]; decide) (by rw [c1]; decide) (off := 31) (by rw [c1]; rfl) (by decide) ?_
    refine lv_aload_n hx hb dX0_count_32 rfl (lv_at hl 0 rfl) ?_
    refine va_get (D := D) (ci := 0) (v := .int tt) (C := RX0) (T := TX0) (N := 6) hx hb hts hin hown hK hP 0 rfl rfl 1 (by decide) lk13 (fun _ h9 => h9) rfl dX0_count_33 ?_
    refine lv_aload_n hx hb dX0_count_36 rfl (lv_at hl 0 rfl) ?_
    refine va_get (D := D) (ci := 0) (v := .int tk) (C := RX0) (T := TX0) (N := 6) hx hb hts hin hown hK hP 0 rfl rfl 2 (by decide) lk17 (fun _ h9 => h9) rfl dX0_count_37 ?_
    refine lv_isub hx hb dX0_count_40 ?_
    refine lv_topi (fun t2 et2 => ?_)
    have hres : t2 = dk_count (rg, tt, tk, en, ki, os) x1 := by
      subst et2
      first | (rw [c1]; rfl) | (simp only [c1, dk_count]; done) | (simp [c1, dk_count]; done)
    exact W.iret (v := t2) hx hb hr (fun t ht hW => ⟨congrArg (fun z => Outcome.returned (some (Value.int z))) hres, ht⟩) (fun q h => absurd h List.not_mem_nil) dX0_count_41
  · refine lv_tableIn (tgt := 42) hx hb dX0_count_1 (by rw [c1]; decide) (by rw [c1]; decide) (off := 41) (by rw [c1]; rfl) (by decide) ?_
    refine lv_aload_n hx hb dX0_count_42 rfl (lv_at hl 0 rfl) ?_
    refine va_get (D := D) (ci := 0) (v := .int en) (C := RX0) (T := TX0) (N := 6) hx hb hts hin hown hK hP 0 rfl rfl 3 (by decide) lk20 (fun _ h9 => h9) rfl dX0_count_43 ?_
    have hres : en = dk_count (rg, tt, tk, en, ki, os) x1 := by
      first | (rw [c1]; rfl) | (simp only [c1, dk_count]; done) | (simp [c1, dk_count]; done)
    exact W.iret (v := en) hx hb hr (fun t ht hW => ⟨congrArg (fun z => Outcome.returned (some (Value.int z))) hres, ht⟩) (fun q h => absurd h List.not_mem_nil) dX0_count_46
  · refine lv_tableIn (tgt := 47) hx hb dX0_count_1 (by rw [c1]; decide) (by rw [c1]; decide) (off := 46) (by rw [c1]; rfl) (by decide) ?_
    refine lv_aload_n hx hb dX0_count_47 rfl (lv_at hl 0 rfl) ?_
    refine va_get (D := D) (ci := 0) (v := .int ki) (C := RX0) (T := TX0) (N := 6) hx hb hts hin hown hK hP 0 rfl rfl 4 (by decide) lk23 (fun _ h9 => h9) rfl dX0_count_48 ?_
    have hres : ki = dk_count (rg, tt, tk, en, ki, os) x1 := by
      first | (rw [c1]; rfl) | (simp only [c1, dk_count]; done) | (simp [c1, dk_count]; done)
    exact W.iret (v := ki) hx hb hr (fun t ht hW => ⟨congrArg (fun z => Outcome.returned (some (Value.int z))) hres, ht⟩) (fun q h => absurd h List.not_mem_nil) dX0_count_51
  · refine lv_tableIn (tgt := 52) hx hb dX0_count_1 (by rw [c1]; decide) (by rw [c1]; decide) (off := 51) (by rw [c1]; rfl) (by decide) ?_
    refine lv_aload_n hx hb dX0_count_52 rfl (lv_at hl 0 rfl) ?_
    refine va_get (D := D) (ci := 0) (v := .int tt) (C := RX0) (T := TX0) (N := 6) hx hb hts hin hown hK hP 0 rfl rfl 1 (by decide) lk13 (fun _ h9 => h9) rfl dX0_count_53 ?_
    refine lv_aload_n hx hb dX0_count_56 rfl (lv_at hl 0 rfl) ?_
    refine kk_readV (ci := 0) (q0 := 0) (rest := [.int tt]) ⟨hx, hb, hml, hown, hts⟩ (cD_endOfEndedLines l D cA q0 q1 rg tt tk en ki os) (cwV 0 hts gX0_count_X0_endOfEndedLines rfl rfl rfl (by decide +kernel) ⟨Nat.le_of_ble_eq_true rfl, Nat.le_of_ble_eq_true rfl⟩) hK hP hD rfl rfl rfl hl.1 rfl (Nat.le_of_ble_eq_true rfl) dX0_count_57 ⟨Nat.zero_le _, Nat.zero_le _⟩ ?_
    refine lv_topi (fun t3 et3 => ?_)
    refine lv_isub hx hb dX0_count_60 ?_
    refine lv_topi (fun t4 et4 => ?_)
    have hres : t4 = dk_count (rg, tt, tk, en, ki, os) x1 := by
      subst et4 et3
      first | (rw [c1]; rfl) | (simp only [c1, dk_count]; done) | (simp [c1, dk_count]; done)
    exact W.iret (v := t4) hx hb hr (fun t ht hW => ⟨congrArg (fun z => Outcome.returned (some (Value.int z))) hres, ht⟩) (fun q h => absurd h List.not_mem_nil) dX0_count_61
