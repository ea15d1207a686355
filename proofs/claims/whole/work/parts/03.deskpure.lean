/-! the desk's state and what each of its methods does to it, in words of Int32 -/
abbrev DSt : Type := (Nat → Int32) × Int32 × Int32 × Int32 × Int32 × Int32
def dk_room (u : DSt) (k : Int32) : Int32 := if 3000 < u.2.1 - u.2.2.1 + k + 1 then 0 else 1
def dk_bto (u : DSt) : Int32 := if ¬ u.2.2.2.2.1 = -1 then 2 else 1
def dk_eoe (u : DSt) : Int32 := if ¬ u.2.2.2.2.1 = -1 then u.2.2.2.2.2 else u.2.1
def dk_fb (k : Int32) : Int32 := if k = 0 then 40 else if k = 1 then 41 else if k = 2 then 65 else if k = 3 then 63 else 45
def dk_isC (n : Int32) : Int32 := if n < 0 then (if n < 57344 then 0 else if 1114111 < n then 0 else 1) else if n ≤ 55295 then 1 else (if n < 57344 then 0 else if 1114111 < n then 0 else 1)
def dk_esc (k : Int32) : Int32 := if k = 9 then 116 else if k = 10 then 110 else if k = 13 then 114 else if k = 92 then 92 else 0
def dk_size (k : Int32) : Int32 := if dk_esc k = 0 then (if 128 ≤ k then (if 2048 ≤ k then (if 65536 ≤ k then 4 else 3) else 2) else 1) else 2
def dk_put (u : DSt) (v : Int32) : DSt := (upd u.1 (u.2.1 &&& 4095).toNatClampNeg v.toInt8.toInt32, u.2.1 + 1, u.2.2)
def dk_tail (u : DSt) (b : Int32) : DSt := dk_put u (128 ||| (b &&& 63))
def dk_utf (u : DSt) (k : Int32) : DSt := if 128 ≤ k then (if 2048 ≤ k then (if 65536 ≤ k then dk_tail (dk_tail (dk_tail (dk_put u (240 ||| (k >>> ((18 : Int32) &&& 31)))) (k >>> ((12 : Int32) &&& 31))) (k >>> ((6 : Int32) &&& 31))) k else dk_tail (dk_tail (dk_put u (224 ||| (k >>> ((12 : Int32) &&& 31)))) (k >>> ((6 : Int32) &&& 31))) k) else dk_tail (dk_put u (192 ||| (k >>> ((6 : Int32) &&& 31)))) k) else dk_put u k
def dk_putC (u : DSt) (k : Int32) : DSt := if dk_esc k = 0 then dk_utf u k else dk_put (dk_put u 92) (dk_esc k)
def dk_e2 (v : DSt) : DSt := (v.1, v.2.1, v.2.2.1, v.2.2.2.1 + 1, -1, v.2.2.2.2.2)
def dk_endL (u : DSt) : DSt := dk_e2 (dk_put u 10)
def dk_o2 (v : DSt) (k : Int32) : DSt := (v.1, v.2.1, v.2.2.1, v.2.2.2.1, k, v.2.1)
def dk_open (u : DSt) (k : Int32) : DSt := if u.2.2.2.2.1 = -1 then dk_put (dk_o2 u k) (dk_fb k) else dk_put (dk_o2 (dk_endL u) k) (dk_fb k)
def dk_begin (u : DSt) (k : Int32) : Int32 × DSt := if k < 0 then (0, u) else if 3 < k then (0, u) else if ¬ dk_room u (dk_bto u) = 0 then (1, dk_open u k) else (0, u)
def dk_add (u : DSt) (k : Int32) : Int32 × DSt := if u.2.2.2.2.1 = -1 then (0, u) else if u.2.2.2.2.1 = 4 then (0, u) else if ¬ dk_isC k = 0 then (if ¬ dk_room u (dk_size k) = 0 then (1, dk_putC u k) else (0, u)) else (0, u)
def dk_text (u : DSt) (k : Int32) : Int32 × DSt := if ¬ dk_isC k = 0 then (if ¬ u.2.2.2.2.1 = 4 then (if ¬ dk_room u (dk_bto u + dk_size k) = 0 then (1, dk_putC (dk_open u 4) k) else (0, u)) else (if ¬ dk_room u (0 + dk_size k) = 0 then (1, dk_putC u k) else (0, u))) else (0, u)
def dk_end (u : DSt) : Int32 × DSt := if u.2.2.2.2.1 = -1 then (u.2.2.2.2.1, u) else (u.2.2.2.2.1, dk_endL u)
def dk_at (u : DSt) (k : Int32) : Int32 := u.1 (k &&& 4095).toNatClampNeg &&& 255
def dk_btw (u : DSt) (k : Int32) : Int32 := if k = 0 then 1 else if ¬ dk_at u (k - 1) = 10 then 0 else 1
def dk_les (u : DSt) (acc pos : Int32) : Nat → Int32
  | 0 => acc
  | n + 1 => dk_les u (if ¬ dk_at u pos = 10 then acc else acc + 1) (pos + 1) n
def dk_b2 (u : DSt) (k n : Int32) : DSt := (u.1, k, u.2.2.1, u.2.2.2.1 - n, -1, u.2.2.2.2.2)
def dk_lef (u : DSt) (k : Int32) : Int32 := dk_les u 0 k (u.2.1 - k).toNatClampNeg
def dk_back (u : DSt) (k : Int32) : Int32 × DSt := if k < u.2.2.1 then (0, u) else if u.2.1 < k then (0, u) else if ¬ dk_btw u k = 0 then (1, dk_b2 u k (dk_lef u k)) else (0, u)
def dk_mark (u : DSt) : Int32 := if ¬ u.2.2.2.2.1 = -1 then -1 else u.2.1
def dk_sz (u : DSt) : Int32 := if 7 < dk_eoe u - u.2.2.1 then 7 else dk_eoe u - u.2.2.1
def dk_pc (u : DSt) (sz : Int32) (acc : Int64) (i : Int32) : Nat → Int64
  | 0 => acc
  | n + 1 => dk_pc u sz ((acc <<< ((8 : Int32).toInt64 &&& 63)) ||| (if sz ≤ i then 0 else dk_at u (u.2.2.1 + i)).toInt64) (i + 1) n
def dk_take (u : DSt) : Int64 × DSt := if 0 < dk_sz u then (dk_pc u (dk_sz u) (dk_sz u).toInt64 0 7, (u.1, u.2.1, u.2.2.1 + dk_sz u, u.2.2.2)) else (0, u)
def dk_count (u : DSt) (k : Int32) : Int32 := if k = 0 then u.2.1 - u.2.2.1 else if k = 1 then u.2.2.2.1 else if k = 2 then u.2.2.2.2.1 else if k = 3 then u.2.1 - dk_eoe u else -1
theorem dk_mask (x : Int32) : vp_in (x &&& 4095) 4096 := pk_andIn x 12 (by decide) (by decide)
theorem dk_mlt (x : Int32) : ¬ (4096 : Int32) ≤ x &&& 4095 := by
  obtain ⟨j, h1, h2⟩ := pk_andE x (m := 4095) 12 (by decide)
  rw [h2]
  exact nI_ge (b := 4096) h1 (by decide)
theorem dk_sw4 (x : Int32) : (x.toInt < 0 ∨ 3 < x.toInt) ∨ x = 0 ∨ x = 1 ∨ x = 2 ∨ x = 3 := by
  by_cases h0 : x = 0
  · exact Or.inr (Or.inl h0)
  by_cases h1 : x = 1
  · exact Or.inr (Or.inr (Or.inl h1))
  by_cases h2 : x = 2
  · exact Or.inr (Or.inr (Or.inr (Or.inl h2)))
  by_cases h3 : x = 3
  · exact Or.inr (Or.inr (Or.inr (Or.inr h3)))
  have a0 := lv_neT (a := 0) h0 (by decide)
  have a1 := lv_neT (a := 1) h1 (by decide)
  have a2 := lv_neT (a := 2) h2 (by decide)
  have a3 := lv_neT (a := 3) h3 (by decide)
  left
  omega
theorem dk_ne4 {x : Int32} (h : x.toInt < 0 ∨ 3 < x.toInt) : ¬ x = 0 ∧ ¬ x = 1 ∧ ¬ x = 2 ∧ ¬ x = 3 := by
  refine ⟨fun q => ?_, fun q => ?_, fun q => ?_, fun q => ?_⟩ <;> subst q <;> revert h <;> decide
def dk_rng (tk tt : Int32) : Prop := ∃ a b : Nat, tk = nI a ∧ tt = nI (a + b) ∧ a + b < 2 ^ 31
theorem dk_mid {tk tt x : Int32} (h : dk_rng tk tt) (h1 : ¬ x < tk) (h2 : ¬ tt < x) : dk_rng x tt := by
  obtain ⟨a, b, rfl, rfl, hl⟩ := h
  have h0 : ¬ x < 0 := by
    intro q
    apply h1
    have := nI_toInt (n := a) (by omega)
    rw [Int32.lt_iff_toInt_lt] at q ⊢
    rw [this]
    have z : (0 : Int32).toInt = 0 := by decide
    omega
  obtain ⟨j, hj, rfl⟩ := nI_of h0
  rw [nI_ltI (by omega) (by omega)] at h2
  exact ⟨j, a + b - j, rfl, by congr 1; omega, by omega⟩
theorem dk_lefN {u : DSt} {i n : Nat} (ht : u.2.1 = nI (i + n)) (hl : i + n < 2 ^ 31) : dk_lef u (nI i) = dk_les u 0 (nI i) n := by
  unfold dk_lef
  rw [ht, pk_sub (by omega), nI_clamp (by omega), show i + n - i = n by omega]
