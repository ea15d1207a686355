set_option maxHeartbeats 4000000 in
set_option maxRecDepth 100000 in
theorem law_loop {p : Program} {l : Launch} {e : Env} {s : State} {m : MethodId} {below : List Frame} {meth : Method} {c : Code} {D : va_G} {cA cR cY : ClassId} {q0 q1 m0 m1 m2 b L : Nat} {xs : Nat → Int32} (hL : L ≤ 1024) (C0 : lw_At p s m meth c b L xs) (hK : va_K D vwCl [(cA, .byte), (cR, .int), (cY, .int)] s) (hDa : ∀ (u : DSt) (v : MSt), va_D (fun q : Nat => s.heap.size ≤ q) (dkW cA q0 q1 u ++ mkW cR cY m0 m1 m2 v)) : ∀ (n j : Nat) (i : Int32) (u : DSt) (v : MSt), i = nI (2 * j) → L ≤ 2 * (j + n) + 1 → j ≤ 512 → dmI j u v → lw_G p l e s m below meth c D cA cR cY q0 q1 m0 m1 m2 b 18 i u v := by
  obtain ⟨hx, hb, hr, hml, hown, hts0, hX, hbl, hlocks, hgv⟩ := id C0
  have hbA : ¬ (fun q : Nat => s.heap.size ≤ q) b := Nat.not_le.mpr hbl
  intro n
  induction n with
  | zero =>
    intro j i u v hi hn hj hI H locs ls hPd hPm hS hl
    refine lv_iload_n hx hb dL_law_18 rfl (lv_at hl 3 rfl) ?_
    refine lv_aload_n hx hb dL_law_19 rfl (lv_at hl 0 rfl) ?_
    refine va_slen hx hb hX hbl hbA hS dL_law_20 ?_
    refine lv_iconst (v := 2) hx hb dL_law_21 (by decide) ?_
    refine lv_isub hx hb dL_law_22 ?_
    have hcond : (nI L - 2 < i) ↔ L < 2 * j + 2 := by rw [hi]; exact lw_end hL (by omega)
    refine lv_icmp_gt (tgt := 241) hx hb dL_law_23 (by decide) (fun c1 => ?_) (fun c1 => ?_)
    · refine lv_iconst (v := 1) hx hb dL_law_241 (by decide) ?_
      refine va_forget (fun q hq => hS.2.2 q hq) ?_
      exact lw_ret hx hb hr hlocks dL_law_242
    · exact absurd (hcond.mpr (by omega)) c1
  | succ n ih =>
    intro j i u v hi hn hj hI H locs ls hPd hPm hS hl
    refine lv_iload_n hx hb dL_law_18 rfl (lv_at hl 3 rfl) ?_
    refine lv_aload_n hx hb dL_law_19 rfl (lv_at hl 0 rfl) ?_
    refine va_slen hx hb hX hbl hbA hS dL_law_20 ?_
    refine lv_iconst (v := 2) hx hb dL_law_21 (by decide) ?_
    refine lv_isub hx hb dL_law_22 ?_
    have hcond : (nI L - 2 < i) ↔ L < 2 * j + 2 := by rw [hi]; exact lw_end hL (by omega)
    refine lv_icmp_gt (tgt := 241) hx hb dL_law_23 (by decide) (fun c1 => ?_) (fun c1 => ?_)
    · refine lv_iconst (v := 1) hx hb dL_law_241 (by decide) ?_
      refine va_forget (fun q hq => hS.2.2 q hq) ?_
      exact lw_ret hx hb hr hlocks dL_law_242
    · have hjL : 2 * j + 2 ≤ L := Nat.le_of_not_lt (fun q => c1 (hcond.mpr q))
      have hin0 : vp_in i L := by rw [hi]; exact vp_in_nI (by omega) (by omega)
      refine lv_aload_n hx hb dL_law_26 rfl (lv_at hl 0 rfl) ?_
      refine lv_iload_n hx hb dL_law_27 rfl (lv_at hl 3 rfl) ?_
      refine va_sld hx hb hX hbl hbA hS hin0 dL_law_28 ?_
      refine lv_bipush (v := 7) hx hb dL_law_29 (by decide) ?_
      refine lv_iand hx hb dL_law_31 ?_
      have hnext : ∀ (u : DSt) (v : MSt), dmI (j + 1) u v → lw_G p l e s m below meth c D cA cR cY q0 q1 m0 m1 m2 b 235 i u v := by
        intro u v hI H locs ls hPd hPm hS hl
        obtain ⟨i2, ei2⟩ : ∃ y : Int32, y = i + 2 := ⟨_, rfl⟩
        refine lv_iinc (v := i2) (lv' := [(3, .int i2), (0, .ref b), (1, .ref q0), (2, .ref m0)]) hx hb dL_law_235 hl (k := 3) rfl (by rw [ei2]; rfl) (by decide) rfl (fun ls hl => ?_)
        refine lv_goto (tgt := 18) hx hb dL_law_238 (by decide) ?_
        exact ih (j + 1) i2 u v (by rw [ei2, hi]; exact nI_add (2 * j) 2) (by omega) (by omega) hI H locs ls hPd hPm hS (lv_sub hl [1, 2, 3, 0] rfl)
      rcases lw_sw8 (xs i.toNatClampNeg) with h | h | h | h | h | h | h | h
      · refine lv_tableIn (tgt := 80) hx hb dL_law_32 (by rw [h]; decide) (by rw [h]; decide) (off := 48) (by rw [h]; rfl) (by decide) ?_
        exact law_begin hL C0 hK hi hjL hI hDa hnext H locs ls hPd hPm hS hl
      · refine lv_tableIn (tgt := 103) hx hb dL_law_32 (by rw [h]; decide) (by rw [h]; decide) (off := 71) (by rw [h]; rfl) (by decide) ?_
        exact law_add hL C0 hK hi hjL hI hDa hnext H locs ls hPd hPm hS hl
      · refine lv_tableIn (tgt := 126) hx hb dL_law_32 (by rw [h]; decide) (by rw [h]; decide) (off := 94) (by rw [h]; rfl) (by decide) ?_
        exact law_text hL C0 hK hi hjL hI hDa hnext H locs ls hPd hPm hS hl
      · refine lv_tableIn (tgt := 149) hx hb dL_law_32 (by rw [h]; decide) (by rw [h]; decide) (off := 117) (by rw [h]; rfl) (by decide) ?_
        exact law_end hL C0 hK hi hjL hI hDa hnext H locs ls hPd hPm hS hl
      · refine lv_tableIn (tgt := 162) hx hb dL_law_32 (by rw [h]; decide) (by rw [h]; decide) (off := 130) (by rw [h]; rfl) (by decide) ?_
        exact law_back hL C0 hK hi hjL hI hDa hnext H locs ls hPd hPm hS hl
      · refine lv_tableIn (tgt := 185) hx hb dL_law_32 (by rw [h]; decide) (by rw [h]; decide) (off := 153) (by rw [h]; rfl) (by decide) ?_
        exact law_mark hL C0 hK hi hjL hI hDa hnext H locs ls hPd hPm hS hl
      · refine lv_tableIn (tgt := 198) hx hb dL_law_32 (by rw [h]; decide) (by rw [h]; decide) (off := 166) (by rw [h]; rfl) (by decide) ?_
        exact law_take hL C0 hK hi hjL hI hDa hnext H locs ls hPd hPm hS hl
      · refine lv_tableIn (tgt := 212) hx hb dL_law_32 (by rw [h]; decide) (by rw [h]; decide) (off := 180) (by rw [h]; rfl) (by decide) ?_
        exact law_count hL C0 hK hi hjL hI hDa hnext H locs ls hPd hPm hS hl
