/-! characters: both sides take the same ones, and write the same bytes -/
theorem dm_or192 : ∀ q, q < 32 → ((192 : Int32) ||| nI q) = nI (192 + q) := by decide +kernel
theorem dm_or224 : ∀ q, q < 16 → ((224 : Int32) ||| nI q) = nI (224 + q) := by decide +kernel
theorem dm_or240 : ∀ q, q < 8 → ((240 : Int32) ||| nI q) = nI (240 + q) := by decide +kernel
theorem dm_or128 : ∀ q, q < 64 → ((128 : Int32) ||| nI q) = nI (128 + q) := by decide +kernel
theorem dm_a255 : ∀ q, q < 256 → nI q &&& 255 = nI q := by decide +kernel
theorem dm_ne10 : ∀ q, q < 256 → 128 ≤ q → ¬ nI q = 10 := by decide +kernel
theorem dm_tl {a : Nat} (h : a < 2 ^ 31) : (128 ||| (nI a &&& 63)) &&& 255 = 128 + mk_rem (nI a) ∧ ¬ 128 + mk_rem (nI a) = 10 := by
  have h1 : nI a &&& 63 = nI (a % 64) := pk_andN (by omega) 6 (by decide)
  have h2 : mk_rem (nI a) = nI (a % 64) := pk_rem (d := 64) h (by omega) (by omega)
  have h3 : a % 64 < 64 := Nat.mod_lt _ (by omega)
  have h4 : (128 : Int32) + nI (a % 64) = nI (128 + a % 64) := nI_add 128 (a % 64)
  rw [h1, h2, dm_or128 _ h3, h4, dm_a255 _ (by omega)]
  exact ⟨rfl, dm_ne10 _ (by omega) (by omega)⟩
theorem dm_shr {a : Nat} (h : a < 2 ^ 31) : nI a >>> ((6 : Int32) &&& 31) = nI (a / 64) ∧ nI a >>> ((12 : Int32) &&& 31) = nI (a / 64 / 64) ∧ nI a >>> ((18 : Int32) &&& 31) = nI (a / 64 / 64 / 64) := by
  refine ⟨pk_shrN h _ 6 (by decide), ?_, ?_⟩
  · rw [pk_shrN h _ 12 (by decide), Nat.div_div_eq_div_mul]
  · rw [pk_shrN h _ 18 (by decide), Nat.div_div_eq_div_mul, Nat.div_div_eq_div_mul]
theorem dm_div {a : Nat} (h : a < 2 ^ 31) : nI a / 64 = nI (a / 64) := pk_div (d := 64) h (by omega) (by omega)
/-- what a character is -/
def dm_ch (c : Int32) : Prop := ∃ a : Nat, c = nI a ∧ a ≤ 1114111 ∧ (a < 55296 ∨ 57344 ≤ a)
theorem dm_lits : (57344 : Int32) = nI 57344 ∧ (1114111 : Int32) = nI 1114111 ∧ (55295 : Int32) = nI 55295 ∧ (55296 : Int32) = nI 55296 ∧ (128 : Int32) = nI 128 ∧ (2048 : Int32) = nI 2048 ∧ (65536 : Int32) = nI 65536 := ⟨rfl, rfl, rfl, rfl, rfl, rfl, rfl⟩
theorem dm_isC {c : Int32} (h : dm_ch c) : dk_isC c = 1 := by
  obtain ⟨a, rfl, h1, h2⟩ := h
  unfold dk_isC
  rw [if_neg (nI_pos (by omega))]
  by_cases h3 : a < 55296
  · rw [if_pos (show nI a ≤ (55295 : Int32) from nI_le (b := 55295) (by omega) (by omega))]
  · rw [if_neg (show ¬ nI a ≤ (55295 : Int32) from nI_ge (a := 55295) (by omega) (by omega)), if_neg (show ¬ nI a < (57344 : Int32) from nI_nlt (b := 57344) (by omega) (by omega)), if_neg (show ¬ (1114111 : Int32) < nI a from nI_nlt (a := 1114111) (by omega) (by omega))]
theorem dm_notC {c : Int32} (h : ¬ dm_ch c) : dk_isC c = 0 ∧ ∀ v, mk_code v c = (0, v) := by
  by_cases h0 : c < 0
  · have h1 : c < 57344 := Int32.lt_trans h0 (by decide)
    refine ⟨?_, fun v => ?_⟩
    · unfold dk_isC; rw [if_pos h0, if_pos h1]
    · unfold mk_code; rw [if_pos h0]
  · obtain ⟨a, ha, rfl⟩ := nI_of h0
    by_cases h1 : a ≤ 1114111
    · have h2 : 55296 ≤ a ∧ a < 57344 := by
        refine ⟨Nat.le_of_not_lt fun q => h ⟨a, rfl, h1, Or.inl q⟩, Nat.lt_of_not_le fun q => h ⟨a, rfl, h1, Or.inr q⟩⟩
      refine ⟨?_, fun v => ?_⟩
      · unfold dk_isC
        rw [if_neg h0, if_neg (show ¬ nI a ≤ (55295 : Int32) from nI_ge (a := 55295) (by omega) (by omega)), if_pos (show nI a < (57344 : Int32) from nI_lt (b := 57344) (by omega) (by omega))]
      · unfold mk_code
        rw [if_neg h0, if_neg (show ¬ (1114111 : Int32) < nI a from nI_nlt (a := 1114111) (by omega) (by omega)), if_neg (show ¬ nI a < (55296 : Int32) from nI_nlt (b := 55296) (by omega) (by omega)), if_neg (show ¬ (57344 : Int32) ≤ nI a from nI_ge (b := 57344) (by omega) (by omega))]
    · refine ⟨?_, fun v => ?_⟩
      · unfold dk_isC
        rw [if_neg h0, if_neg (show ¬ nI a ≤ (55295 : Int32) from nI_ge (a := 55295) (by omega) (by omega)), if_neg (show ¬ nI a < (57344 : Int32) from nI_nlt (b := 57344) (by omega) (by omega)), if_pos (show (1114111 : Int32) < nI a from nI_lt (a := 1114111) (by omega) (by omega))]
      · unfold mk_code
        rw [if_neg h0, if_pos (show (1114111 : Int32) < nI a from nI_lt (a := 1114111) (by omega) (by omega))]
theorem dm_code {c : Int32} (h : dm_ch c) (v : MSt) : mk_code v c = (1, mk_c3 (mk_cm v c) c) := by
  obtain ⟨a, rfl, h1, h2⟩ := h
  unfold mk_code
  rw [if_neg (nI_pos (by omega)), if_neg (show ¬ (1114111 : Int32) < nI a from nI_nlt (a := 1114111) (by omega) (by omega))]
  by_cases h3 : a < 55296
  · rw [if_pos (show nI a < (55296 : Int32) from nI_lt (b := 55296) (by omega) (by omega))]
  · rw [if_neg (show ¬ nI a < (55296 : Int32) from nI_nlt (b := 55296) (by omega) (by omega)), if_pos (show (57344 : Int32) ≤ nI a from nI_le (a := 57344) (by omega) (by omega))]
def dm_bytes (c : Int32) (l : List Int32) : Prop := 1 ≤ l.length ∧ l.length ≤ 4 ∧ dk_size c = nI l.length ∧ (∀ u, dk_putC u c = l.foldl dk_put u) ∧ ∀ v, ∃ g, mk_code v c = (1, mk_sb v g (nI l.length)) ∧ ∀ (t : Nat) (x : Int32), l[t]? = some x → x &&& 255 = g t ∧ ¬ g t = 10
theorem dm_z0 : (0 : Int32).toNatClampNeg = 0 ∧ (1 : Int32).toNatClampNeg = 1 ∧ (2 : Int32).toNatClampNeg = 2 ∧ (3 : Int32).toNatClampNeg = 3 := by decide
theorem dm_esc {c o : Int32} (hc : dm_ch c) (h1 : ¬ dk_esc c = 0) (h2 : dk_esc c = o) (h3 : ∀ v, mk_c3 v c = mk_c4 v o) (h4 : o &&& 255 = o ∧ ¬ o = 10) : dm_bytes c [92, o] := by
  refine ⟨by show 1 ≤ 2; omega, by show 2 ≤ 4; omega, ?_, ?_, ?_⟩
  · unfold dk_size; rw [if_neg h1]; rfl
  · intro u
    unfold dk_putC
    rw [if_neg h1, h2]
    rfl
  · intro v
    obtain ⟨f, n, -, e⟩ := mk_cm_many v c
    refine ⟨upd (upd f 0 92) 1 o, ?_, ?_⟩
    · rw [dm_code hc, h3, e]
      unfold mk_c4
      rw [dm_z0.1, dm_z0.2.1]
      rfl
    · intro t x hx
      match t, hx with
      | 0, hx =>
        cases hx
        rw [pk_un (by decide), pk_us]
        decide
      | 1, hx =>
        cases hx
        rw [pk_us]
        exact h4
      | t + 2, hx => cases hx
theorem dm_plain {c : Int32} (h1 : ¬ c = 92) (h2 : ¬ c = 10) (h3 : ¬ c = 9) (h4 : ¬ c = 13) : dk_esc c = 0 ∧ ∀ v, mk_c3 v c = v := by
  refine ⟨?_, fun v => ?_⟩
  · unfold dk_esc; rw [if_neg h3, if_neg h2, if_neg h4, if_neg h1]
  · unfold mk_c3; rw [if_pos h1, if_pos h2, if_pos h3, if_pos h4]
/-- every character has its bytes -/
theorem dm_char {c : Int32} (hc : dm_ch c) : ∃ l, dm_bytes c l := by
  by_cases h1 : c = 92
  · subst h1; exact ⟨_, dm_esc (o := 92) hc (by decide) (by decide) (fun v => by unfold mk_c3; rw [if_neg (by decide)]) (by decide)⟩
  by_cases h2 : c = 10
  · subst h2; exact ⟨_, dm_esc (o := 110) hc (by decide) (by decide) (fun v => by unfold mk_c3; rw [if_pos (by decide), if_neg (by decide)]) (by decide)⟩
  by_cases h3 : c = 9
  · subst h3; exact ⟨_, dm_esc (o := 116) hc (by decide) (by decide) (fun v => by unfold mk_c3; rw [if_pos (by decide), if_pos (by decide), if_neg (by decide)]) (by decide)⟩
  by_cases h4 : c = 13
  · subst h4; exact ⟨_, dm_esc (o := 114) hc (by decide) (by decide) (fun v => by unfold mk_c3; rw [if_pos (by decide), if_pos (by decide), if_pos (by decide), if_neg (by decide)]) (by decide)⟩
  obtain ⟨he, h5⟩ := dm_plain h1 h2 h3 h4
  have hcode : ∀ v, mk_code v c = (1, mk_cm v c) := fun v => by rw [dm_code hc, h5]
  obtain ⟨a, rfl, ha, hb⟩ := hc
  have hsz : dk_size (nI a) = (if (128 : Int32) ≤ nI a then (if (2048 : Int32) ≤ nI a then (if (65536 : Int32) ≤ nI a then 4 else 3) else 2) else 1) := by
    unfold dk_size; rw [if_pos he]
  have hpc : ∀ u, dk_putC u (nI a) = dk_utf u (nI a) := fun u => by unfold dk_putC; rw [if_pos he]
  have s0 := dm_shr (a := a) (by omega)
  have d1 := dm_div (a := a) (by omega)
  have d2 := dm_div (a := a / 64) (by omega)
  have d3 := dm_div (a := a / 64 / 64) (by omega)
  have t0 := dm_tl (a := a) (by omega)
  have t1 := dm_tl (a := a / 64) (by omega)
  have t2 := dm_tl (a := a / 64 / 64) (by omega)
  obtain ⟨z0, z1, z2, z3⟩ := dm_z0
  by_cases q1 : a < 128
  · have c1 : ¬ (128 : Int32) ≤ nI a := nI_ge (b := 128) q1 (by omega)
    refine ⟨[nI a], by show 1 ≤ 1; omega, by show 1 ≤ 4; omega, ?_, ?_, ?_⟩
    · rw [hsz, if_neg c1]; rfl
    · intro u; rw [hpc]; unfold dk_utf; rw [if_neg c1]; rfl
    · intro v
      refine ⟨mk_by1 v.2.2.2.2.2.2.2.1 (nI a), ?_, ?_⟩
      · rw [hcode]; unfold mk_cm; rw [if_neg c1]; rfl
      · intro t x hx
        match t, hx with
        | 0, hx =>
          cases hx
          unfold mk_by1
          rw [z0, pk_us]
          exact ⟨dm_a255 a (by omega), h2⟩
        | t + 1, hx => cases hx
  have c1 : (128 : Int32) ≤ nI a := nI_le (a := 128) (by omega) (by omega)
  by_cases q2 : a < 2048
  · have c2 : ¬ (2048 : Int32) ≤ nI a := nI_ge (b := 2048) q2 (by omega)
    refine ⟨[192 ||| (nI a >>> ((6 : Int32) &&& 31)), 128 ||| (nI a &&& 63)], by show 1 ≤ 2; omega, by show 2 ≤ 4; omega, ?_, ?_, ?_⟩
    · rw [hsz, if_pos c1, if_neg c2]; rfl
    · intro u; rw [hpc]; unfold dk_utf; rw [if_pos c1, if_neg c2]; rfl
    · intro v
      refine ⟨mk_by2 v.2.2.2.2.2.2.2.1 (nI a), ?_, ?_⟩
      · rw [hcode]; unfold mk_cm; rw [if_pos c1, if_neg c2]; rfl
      · intro t x hx
        have hq : a / 64 < 32 := by omega
        unfold mk_by2
        rw [z0, z1]
        match t, hx with
        | 0, hx =>
          cases hx
          rw [pk_us, s0.1, d1, dm_or192 _ hq, show (192 : Int32) + nI (a / 64) = nI (192 + a / 64) from nI_add 192 _, dm_a255 _ (by omega)]
          exact ⟨rfl, dm_ne10 _ (by omega) (by omega)⟩
        | 1, hx =>
          cases hx
          rw [pk_un (by decide), pk_us]
          exact t0
        | t + 2, hx => cases hx
  have c2 : (2048 : Int32) ≤ nI a := nI_le (a := 2048) (by omega) (by omega)
  by_cases q3 : a < 65536
  · have c3 : ¬ (65536 : Int32) ≤ nI a := nI_ge (b := 65536) q3 (by omega)
    refine ⟨[224 ||| (nI a >>> ((12 : Int32) &&& 31)), 128 ||| ((nI a >>> ((6 : Int32) &&& 31)) &&& 63), 128 ||| (nI a &&& 63)], by show 1 ≤ 3; omega, by show 3 ≤ 4; omega, ?_, ?_, ?_⟩
    · rw [hsz, if_pos c1, if_pos c2, if_neg c3]; rfl
    · intro u; rw [hpc]; unfold dk_utf; rw [if_pos c1, if_pos c2, if_neg c3]; rfl
    · intro v
      refine ⟨mk_by3 v.2.2.2.2.2.2.2.1 (nI a), ?_, ?_⟩
      · rw [hcode]; unfold mk_cm; rw [if_pos c1, if_pos c2, if_neg c3]; rfl
      · intro t x hx
        have hq : a / 64 / 64 < 16 := by omega
        unfold mk_by3
        rw [z0, z1, z2]
        match t, hx with
        | 0, hx =>
          cases hx
          rw [pk_us, s0.2.1, d1, d2, dm_or224 _ hq, show (224 : Int32) + nI (a / 64 / 64) = nI (224 + a / 64 / 64) from nI_add 224 _, dm_a255 _ (by omega)]
          exact ⟨rfl, dm_ne10 _ (by omega) (by omega)⟩
        | 1, hx =>
          cases hx
          rw [pk_un (by decide), pk_us, s0.1, d1]
          exact t1
        | 2, hx =>
          cases hx
          rw [pk_un (by decide), pk_un (by decide), pk_us]
          exact t0
        | t + 3, hx => cases hx
  have c3 : (65536 : Int32) ≤ nI a := nI_le (a := 65536) (by omega) (by omega)
  refine ⟨[240 ||| (nI a >>> ((18 : Int32) &&& 31)), 128 ||| ((nI a >>> ((12 : Int32) &&& 31)) &&& 63), 128 ||| ((nI a >>> ((6 : Int32) &&& 31)) &&& 63), 128 ||| (nI a &&& 63)], by show 1 ≤ 4; omega, by show 4 ≤ 4; omega, ?_, ?_, ?_⟩
  · rw [hsz, if_pos c1, if_pos c2, if_pos c3]; rfl
  · intro u; rw [hpc]; unfold dk_utf; rw [if_pos c1, if_pos c2, if_pos c3]; rfl
  · intro v
    refine ⟨mk_by4 v.2.2.2.2.2.2.2.1 (nI a), ?_, ?_⟩
    · rw [hcode]; unfold mk_cm; rw [if_pos c1, if_pos c2, if_pos c3]; rfl
    · intro t x hx
      have hq : a / 64 / 64 / 64 < 8 := by omega
      unfold mk_by4
      rw [z0, z1, z2, z3]
      match t, hx with
      | 0, hx =>
        cases hx
        rw [pk_us, s0.2.2, d1, d2, d3, dm_or240 _ hq, show (240 : Int32) + nI (a / 64 / 64 / 64) = nI (240 + a / 64 / 64 / 64) from nI_add 240 _, dm_a255 _ (by omega)]
        exact ⟨rfl, dm_ne10 _ (by omega) (by omega)⟩
      | 1, hx =>
        cases hx
        rw [pk_un (by decide), pk_us, s0.2.1, d1, d2]
        exact t2
      | 2, hx =>
        cases hx
        rw [pk_un (by decide), pk_un (by decide), pk_us, s0.1, d1]
        exact t1
      | 3, hx =>
        cases hx
        rw [pk_un (by decide), pk_un (by decide), pk_un (by decide), pk_us]
        exact t0
      | t + 4, hx => cases hx
