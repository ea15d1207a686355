/-! the reference's state and what each of its methods does to it: (row, size, open, kind, taken, last, lines, bytes, many) -/
abbrev MSt : Type := (Nat → Int32) × Int32 × Int32 × Int32 × Int32 × Int32 × Int32 × (Nat → Int32) × Int32
def mk_put (v : MSt) (b : Int32) : MSt := (upd v.1 v.2.1.toNatClampNeg b, v.2.1 + 1, v.2.2.1 + 1, v.2.2.2)
def mk_close (v : MSt) : MSt := (upd v.1 v.2.1.toNatClampNeg 10, v.2.1 + 1, 0, -1, v.2.2.2.2)
def mk_fb (k : Int32) : Int32 := if ¬ k = 0 then (if ¬ k = 1 then (if ¬ k = 2 then (if ¬ k = 3 then 45 else 63) else 65) else 41) else 40
def mk_sk (v : MSt) (k : Int32) : MSt := (v.1, v.2.1, v.2.2.1, k, v.2.2.2.2)
def mk_start (v : MSt) (k : Int32) : MSt := if v.2.2.2.1 < 0 then mk_put (mk_sk v k) (mk_fb k) else mk_put (mk_sk (mk_close v) k) (mk_fb k)
def mk_begin (v : MSt) (k : Int32) : Int32 × MSt := if k < 0 then (0, v) else if 3 < k then (0, v) else if v.2.2.2.1 < 0 then (if v.2.1 + 0 + 2 ≤ 3000 then (1, mk_start v k) else (0, v)) else (if v.2.1 + 1 + 2 ≤ 3000 then (1, mk_start v k) else (0, v))
def mk_sb (v : MSt) (f : Nat → Int32) (n : Int32) : MSt := (v.1, v.2.1, v.2.2.1, v.2.2.2.1, v.2.2.2.2.1, v.2.2.2.2.2.1, v.2.2.2.2.2.2.1, f, n)
def mk_rem (x : Int32) : Int32 := x - x / 64 * 64
def mk_by1 (f : Nat → Int32) (c : Int32) : Nat → Int32 := upd f (0 : Int32).toNatClampNeg c
def mk_by2 (f : Nat → Int32) (c : Int32) : Nat → Int32 := upd (upd f (1 : Int32).toNatClampNeg (128 + mk_rem c)) (0 : Int32).toNatClampNeg (192 + c / 64)
def mk_by3 (f : Nat → Int32) (c : Int32) : Nat → Int32 := upd (upd (upd f (2 : Int32).toNatClampNeg (128 + mk_rem c)) (1 : Int32).toNatClampNeg (128 + mk_rem (c / 64))) (0 : Int32).toNatClampNeg (224 + c / 64 / 64)
def mk_by4 (f : Nat → Int32) (c : Int32) : Nat → Int32 := upd (upd (upd (upd f (3 : Int32).toNatClampNeg (128 + mk_rem c)) (2 : Int32).toNatClampNeg (128 + mk_rem (c / 64))) (1 : Int32).toNatClampNeg (128 + mk_rem (c / 64 / 64))) (0 : Int32).toNatClampNeg (240 + c / 64 / 64 / 64)
def mk_cm (v : MSt) (c : Int32) : MSt := if 128 ≤ c then (if 2048 ≤ c then (if 65536 ≤ c then mk_sb v (mk_by4 v.2.2.2.2.2.2.2.1 c) 4 else mk_sb v (mk_by3 v.2.2.2.2.2.2.2.1 c) 3) else mk_sb v (mk_by2 v.2.2.2.2.2.2.2.1 c) 2) else mk_sb v (mk_by1 v.2.2.2.2.2.2.2.1 c) 1
def mk_c4 (v : MSt) (o : Int32) : MSt := mk_sb v (upd (upd v.2.2.2.2.2.2.2.1 (0 : Int32).toNatClampNeg 92) (1 : Int32).toNatClampNeg o) 2
def mk_c3 (v : MSt) (c : Int32) : MSt := if ¬ c = 92 then (if ¬ c = 10 then (if ¬ c = 9 then (if ¬ c = 13 then v else mk_c4 v 114) else mk_c4 v 116) else mk_c4 v 110) else mk_c4 v 92
def mk_code (v : MSt) (c : Int32) : Int32 × MSt := if c < 0 then (0, v) else if 1114111 < c then (0, v) else if c < 55296 then (1, mk_c3 (mk_cm v c) c) else if 57344 ≤ c then (1, mk_c3 (mk_cm v c) c) else (0, v)
def mk_puts (v : MSt) (k : Int32) : Nat → MSt
  | 0 => v
  | n + 1 => mk_puts (mk_put v (v.2.2.2.2.2.2.2.1 k.toNatClampNeg)) (k + 1) n
def mk_pall (v : MSt) : MSt := mk_puts v 0 v.2.2.2.2.2.2.2.2.toNatClampNeg
def mk_add2 (q : Int32 × MSt) : Int32 × MSt := if q.1 = 0 then (0, q.2) else if q.2.2.1 + q.2.2.2.2.2.2.2.2.2 + 1 ≤ 3000 then (1, mk_pall q.2) else (0, q.2)
def mk_add (v : MSt) (c : Int32) : Int32 × MSt := if v.2.2.2.1 < 0 then (0, v) else if v.2.2.2.1 = 4 then (0, v) else mk_add2 (mk_code v c)
def mk_text3 (w : MSt) (more : Int32) : Int32 × MSt := if w.2.1 + more + w.2.2.2.2.2.2.2.2 + 1 ≤ 3000 then (if w.2.2.2.1 = 4 then (1, mk_pall w) else (1, mk_pall (mk_start w 4))) else (0, w)
def mk_text2 (q : Int32 × MSt) : Int32 × MSt := if ¬ q.1 = 0 then (if ¬ q.2.2.2.2.1 = 4 then (if q.2.2.2.2.1 < 0 then mk_text3 q.2 1 else mk_text3 q.2 2) else mk_text3 q.2 0) else (0, q.2)
def mk_text (v : MSt) (c : Int32) : Int32 × MSt := mk_text2 (mk_code v c)
def mk_end (v : MSt) : Int32 × MSt := if v.2.2.2.1 < 0 then (v.2.2.2.1, v) else (v.2.2.2.1, mk_close v)
def mk_b2 (v : MSt) (k : Int32) : MSt := (v.1, k, 0, -1, v.2.2.2.2)
def mk_back2 (v : MSt) (k : Int32) : Int32 × MSt := if k < 0 then (0, v) else if k ≤ v.2.1 then (if k ≤ 0 then (if v.2.2.2.2.2.1 = 10 then (1, mk_b2 v k) else (0, v)) else (if v.1 (k - 1).toNatClampNeg = 10 then (1, mk_b2 v k) else (0, v))) else (0, v)
def mk_back (v : MSt) (k : Int32) : Int32 × MSt := mk_back2 v (k - v.2.2.2.2.1)
def mk_mark (v : MSt) : Int32 := if v.2.2.2.1 < 0 then v.2.2.2.2.1 + v.2.1 else -1
def mk_n (v : MSt) : Int32 := if 7 ≤ v.2.1 - v.2.2.1 then 7 else v.2.1 - v.2.2.1
def mk_t1 (ro : Nat → Int32) (out : Int64) (k : Int32) : Nat → Int64
  | 0 => out
  | n + 1 => mk_t1 ro (out ||| ((ro k.toNatClampNeg).toInt64 <<< ((48 - 8 * k).toInt64 &&& 63))) (k + 1) n
def mk_cn (ro : Nat → Int32) (acc k : Int32) : Nat → Int32
  | 0 => acc
  | n + 1 => mk_cn ro (acc + (if ¬ ro k.toNatClampNeg = 10 then 0 else 1)) (k + 1) n
def mk_sh (ro : Nat → Int32) (n k : Int32) : Nat → (Nat → Int32)
  | 0 => ro
  | j + 1 => mk_sh (upd ro (k - n).toNatClampNeg (ro k.toNatClampNeg)) n (k + 1) j
def mk_tk (v : MSt) (n : Int32) : MSt := (mk_sh v.1 n n (v.2.1 - n).toNatClampNeg, v.2.1 - n, v.2.2.1, v.2.2.2.1, v.2.2.2.2.1 + n, v.1 (n - 1).toNatClampNeg, mk_cn v.1 v.2.2.2.2.2.2.1 0 n.toNatClampNeg, v.2.2.2.2.2.2.2)
def mk_take2 (v : MSt) (n : Int32) : Int64 × MSt := if ¬ n = 0 then (mk_t1 v.1 (n.toInt64 <<< ((56 : Int32).toInt64 &&& 63)) 0 n.toNatClampNeg, mk_tk v n) else (0, v)
def mk_take (v : MSt) : Int64 × MSt := mk_take2 v (mk_n v)
def mk_count (v : MSt) (k : Int32) : Int32 := if k = 0 then v.2.1 else if k = 1 then mk_cn v.1 v.2.2.2.2.2.2.1 0 v.2.1.toNatClampNeg else if k = 2 then v.2.2.2.1 else if k = 3 then v.2.2.1 else -1
def mk_ok (sz : Int32) : Prop := ∃ z : Nat, sz = nI z ∧ z ≤ 3000
def mk_ok2 (sz op : Int32) : Prop := ∃ z o : Nat, sz = nI z ∧ op = nI o ∧ o ≤ z ∧ z ≤ 3000
theorem mk_le {z c : Nat} (hz : z ≤ 3000) (hc : c ≤ 100) (h : nI z + nI c ≤ (3000 : Int32)) : z + c ≤ 3000 := by
  rw [nI_add] at h
  exact (nI_leI (b := 3000) (by omega) (by omega)).mp h
theorem mk_inA {sz : Int32} (hz : mk_ok sz) (h : sz + 0 + 2 ≤ 3000) : vp_in sz 3000 := by
  obtain ⟨z, rfl, hz⟩ := hz
  have h1 : nI z + nI 2 ≤ (3000 : Int32) := by rw [Int32.add_zero] at h; exact h
  have := mk_le hz (by omega) h1
  exact vp_in_nI (by omega) (by omega)
theorem mk_inB {sz : Int32} (hz : mk_ok sz) (h : sz + 1 + 2 ≤ 3000) : vp_in sz 3000 ∧ vp_in (sz + 1) 3000 := by
  obtain ⟨z, rfl, hz⟩ := hz
  have h1 : nI z + nI 3 ≤ (3000 : Int32) := by rw [Int32.add_assoc] at h; exact h
  have := mk_le hz (by omega) h1
  exact ⟨vp_in_nI (by omega) (by omega), by rw [nI_1]; exact vp_in_nI (by omega) (by omega)⟩
theorem mk_inK {sz k : Int32} (hz : mk_ok sz) (h1 : k ≤ sz) (h2 : ¬ k ≤ 0) : vp_in (k - 1) 3000 := by
  obtain ⟨z, rfl, hz⟩ := hz
  have h0 : ¬ k < 0 := fun q => h2 (Int32.le_of_lt q)
  obtain ⟨j, hj, rfl⟩ := nI_of h0
  have h3 : j ≤ z := (nI_leI (by omega) (by omega)).mp h1
  have h4 : j ≠ 0 := fun q => h2 (by rw [q]; decide)
  obtain ⟨i, rfl⟩ : ∃ i, j = i + 1 := ⟨j - 1, by omega⟩
  rw [nI_pred]
  exact vp_in_nI (by omega) (by omega)
theorem mk_cm_many (v : MSt) (c : Int32) : ∃ f, ∃ n : Nat, n ≤ 4 ∧ mk_cm v c = mk_sb v f (nI n) := by
  unfold mk_cm
  split
  · split
    · split
      · exact ⟨_, 4, by omega, rfl⟩
      · exact ⟨_, 3, by omega, rfl⟩
    · exact ⟨_, 2, by omega, rfl⟩
  · exact ⟨_, 1, by omega, rfl⟩
theorem mk_c3_many (v : MSt) (f : Nat → Int32) (n : Nat) (hn : n ≤ 4) (c : Int32) : ∃ g, ∃ i : Nat, i ≤ 4 ∧ mk_c3 (mk_sb v f (nI n)) c = mk_sb v g (nI i) := by
  unfold mk_c3
  split
  · split
    · split
      · split
        · exact ⟨f, n, hn, rfl⟩
        · exact ⟨_, 2, by omega, rfl⟩
      · exact ⟨_, 2, by omega, rfl⟩
    · exact ⟨_, 2, by omega, rfl⟩
  · exact ⟨_, 2, by omega, rfl⟩
/-- what 'code' leaves: it is accepted with at most 4 bytes, or nothing changes -/
theorem mk_code_many (v : MSt) (c : Int32) : mk_code v c = (0, v) ∨ ∃ f, ∃ n : Nat, n ≤ 4 ∧ mk_code v c = (1, mk_sb v f (nI n)) := by
  have hk : ∃ f, ∃ n : Nat, n ≤ 4 ∧ mk_c3 (mk_cm v c) c = mk_sb v f (nI n) := by
    obtain ⟨f, n, hn, e⟩ := mk_cm_many v c
    rw [e]
    exact mk_c3_many v f n hn c
  obtain ⟨f, n, hn, e⟩ := hk
  unfold mk_code
  rw [e]
  split
  · exact Or.inl rfl
  split
  · exact Or.inl rfl
  split
  · exact Or.inr ⟨f, n, hn, rfl⟩
  split
  · exact Or.inr ⟨f, n, hn, rfl⟩
  · exact Or.inl rfl
theorem mk_start_f (v : MSt) (k : Int32) : (v.2.2.2.1 < 0 → (mk_start v k).2.1 = v.2.1 + 1) ∧ (¬ v.2.2.2.1 < 0 → (mk_start v k).2.1 = v.2.1 + 1 + 1) ∧ (mk_start v k).2.2.2.2.2.2.2.2 = v.2.2.2.2.2.2.2.2 := by
  unfold mk_start
  by_cases h : v.2.2.2.1 < 0
  · rw [if_pos h]
    exact ⟨fun _ => rfl, fun q => absurd h q, rfl⟩
  · rw [if_neg h]
    exact ⟨fun q => absurd q h, fun _ => rfl, rfl⟩
theorem mk_nI {sz op : Int32} (h : mk_ok2 sz op) : ∃ n z : Nat, (if 7 ≤ sz - op then 7 else sz - op) = nI n ∧ sz = nI z ∧ n ≤ z ∧ z ≤ 3000 := by
  obtain ⟨z, o, rfl, rfl, h1, h2⟩ := h
  rw [pk_sub h1]
  by_cases h3 : (7 : Int32) ≤ nI (z - o)
  · rw [if_pos h3]
    have h4 : 7 ≤ z - o := (nI_leI (a := 7) (by omega) (by omega)).mp h3
    exact ⟨7, z, rfl, rfl, by omega, h2⟩
  · rw [if_neg h3]
    exact ⟨z - o, z, rfl, rfl, by omega, h2⟩
theorem mk_inN {k : Int32} {n : Nat} (h : k = nI n) (hn : n ≤ 3000) (h0 : ¬ k = 0) : vp_in (k - 1) 3000 := by
  subst h
  have h4 : n ≠ 0 := fun q => h0 (by rw [q]; decide)
  obtain ⟨i, rfl⟩ : ∃ i, n = i + 1 := ⟨n - 1, by omega⟩
  rw [nI_pred]
  exact vp_in_nI (by omega) (by omega)
