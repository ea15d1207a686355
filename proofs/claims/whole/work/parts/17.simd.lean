theorem dm_at {u : DSt} {p : Nat} (h : p < 4096) : dk_at u (nI p) = u.1 p &&& 255 := by
  unfold dk_at
  rw [dm_ix h]
theorem dm_les {u : DSt} : ∀ m i a : Nat, i + m ≤ 4096 → dk_les u (nI a) (nI i) m = nI (a + (dm_cnt u.1 (i + m) - dm_cnt u.1 i)) := by
  intro m
  induction m with
  | zero =>
    intro i a _
    show nI a = nI (a + (dm_cnt u.1 i - dm_cnt u.1 i))
    rw [Nat.sub_self, Nat.add_zero]
  | succ m ih =>
    intro i a hi
    show dk_les u (if ¬ dk_at u (nI i) = 10 then nI a else nI a + 1) (nI i + 1) m = _
    rw [dm_at (by omega), nI_1 i]
    have hm := dm_cnt_mono u.1 (show i + 1 ≤ i + 1 + m by omega)
    have hs : dm_cnt u.1 (i + 1) = dm_cnt u.1 i + (if u.1 i &&& 255 = 10 then 1 else 0) := rfl
    by_cases q : u.1 i &&& 255 = 10
    · rw [if_neg (not_not_intro q), nI_1 a, ih (i + 1) (a + 1) (by omega)]
      rw [if_pos q] at hs
      congr 1
      rw [show i + (m + 1) = i + 1 + m by omega]
      omega
    · rw [if_pos q, ih (i + 1) a (by omega)]
      rw [if_neg q] at hs
      congr 1
      rw [show i + (m + 1) = i + 1 + m by omega]
      omega
theorem dm_wrap {x : Int32} {k s : Nat} (hx : x < 0) (hk : k < 4096) (hs : s ≤ 3000) : x - nI k < 0 ∨ ¬ x - nI k ≤ nI s := by
  have z : (0 : Int32).toInt = 0 := by decide
  have h1 : (x - nI k).toInt = (x.toInt - (k : Int)).bmod (2 ^ 32) := by rw [Int32.toInt_sub, nI_toInt (by omega)]
  have h2 : x.toInt < 0 := by rw [Int32.lt_iff_toInt_lt, z] at hx; exact hx
  have h3 : -2147483648 ≤ x.toInt := Int32.le_toInt x
  rw [Int32.lt_iff_toInt_lt, Int32.le_iff_toInt_le, h1, nI_toInt (by omega), z]
  unfold Int.bmod
  dsimp only
  split <;> omega
theorem dm_back {j : Nat} {u : DSt} {v : MSt} (h : dmI j u v) (hj : j < 512) (x : Int32) : (dk_back u x).1 = (mk_back v x).1 ∧ dmI (j + 1) (dk_back u x).2 (mk_back v x).2 := by
  have h' := dm_more h
  obtain ⟨n, k, hB, hK, hn, hs⟩ := h
  obtain ⟨h1, h2, h3, h4, h5, h6, h7, h8, h9⟩ := hB
  unfold dk_back mk_back
  rw [h6]
  by_cases c0 : x < 0
  · have e1 : x < u.2.2.1 := by
      rw [h2]
      rw [Int32.lt_iff_toInt_lt] at c0 ⊢
      have z : (0 : Int32).toInt = 0 := by decide
      rw [nI_toInt (by omega)]
      omega
    have e2 : mk_back2 v (x - nI k) = (0, v) := by
      unfold mk_back2
      rcases dm_wrap (s := n - k) c0 (show k < 4096 by omega) hs with q | q
      · rw [if_pos q]
      · by_cases q2 : x - nI k < 0
        · rw [if_pos q2]
        · rw [if_neg q2, h5, if_neg q]
    rw [if_pos e1, e2]
    exact ⟨rfl, h'⟩
  obtain ⟨a, ha, rfl⟩ := nI_of c0
  by_cases c1 : a < k
  · have e2 : mk_back2 v (nI a - nI k) = (0, v) := by
      unfold mk_back2
      rw [if_pos (pk_sneg (by omega) c1)]
    rw [if_pos (by rw [h2]; exact nI_lt c1 (by omega)), e2]
    exact ⟨rfl, h'⟩
  have e1 : nI a - nI k = nI (a - k) := pk_sub (by omega)
  rw [if_neg (show ¬ nI a < u.2.2.1 by rw [h2]; exact nI_nlt (by omega) (by omega)), h1, e1]
  unfold mk_back2
  rw [if_neg (nI_pos (show a - k < 2 ^ 31 by omega)), h5]
  by_cases c2 : n < a
  · rw [if_pos (nI_lt c2 (by omega)), if_neg (nI_ge (show n - k < a - k by omega) (by omega))]
    exact ⟨rfl, h'⟩
  rw [if_neg (nI_nlt (show a ≤ n by omega) (by omega)), if_pos (nI_le (show a - k ≤ n - k by omega) (by omega))]
  have hb : dk_btw u (nI a) = if (a = 0 ∨ u.1 (a - 1) &&& 255 = 10) then 1 else 0 := by
    unfold dk_btw
    by_cases q : a = 0
    · rw [if_pos (show nI a = 0 by rw [q]; rfl), if_pos (Or.inl q)]
    · obtain ⟨b, rfl⟩ : ∃ b, a = b + 1 := ⟨a - 1, by omega⟩
      rw [if_neg (nI_ne0 (by omega) (by omega)), nI_pred, dm_at (by omega), Nat.add_sub_cancel]
      by_cases q2 : u.1 b &&& 255 = 10
      · rw [if_neg (not_not_intro q2), if_pos (Or.inr q2)]
      · rw [if_pos q2, if_neg (fun z => z.elim (fun z => q z) q2)]
  have hm : (if nI (a - k) ≤ 0 then (if v.2.2.2.2.2.1 = 10 then ((1 : Int32), mk_b2 v (nI (a - k))) else (0, v)) else (if v.1 (nI (a - k) - 1).toNatClampNeg = 10 then (1, mk_b2 v (nI (a - k))) else (0, v))) = (if (a = 0 ∨ u.1 (a - 1) &&& 255 = 10) then (1, mk_b2 v (nI (a - k))) else (0, v)) := by
    by_cases q : a = k
    · rw [if_pos (show nI (a - k) ≤ 0 by rw [q, Nat.sub_self]; decide)]
      by_cases q2 : a = 0 ∨ u.1 (a - 1) &&& 255 = 10
      · rw [if_pos q2, if_pos (h9.mpr (by rw [← q]; exact q2))]
      · rw [if_neg q2, if_neg (fun z => q2 (by rw [q]; exact h9.mp z))]
    · obtain ⟨b, hb⟩ : ∃ b, a - k = b + 1 := ⟨a - k - 1, by omega⟩
      rw [if_neg (show ¬ nI (a - k) ≤ 0 from nI_nle (by omega) (by omega)), hb, nI_pred, nI_clamp (by omega), h8 b (by omega), show k + b = a - 1 by omega]
      by_cases q2 : u.1 (a - 1) &&& 255 = 10
      · rw [if_pos q2, if_pos (Or.inr q2)]
      · rw [if_neg q2, if_neg (fun z => z.elim (fun z => by omega) q2)]
  rw [hm, hb]
  by_cases q : a = 0 ∨ u.1 (a - 1) &&& 255 = 10
  · rw [if_pos q, if_pos q, if_pos (show ¬ (1 : Int32) = 0 by decide)]
    refine ⟨rfl, a, k, ⟨rfl, h2, by omega, ?_, rfl, h6, h7, fun i hi => h8 i (by omega), h9⟩, Or.inl ⟨rfl, rfl, rfl⟩, by omega, by omega⟩
    show u.2.2.2.1 - dk_lef u (nI a) = nI (dm_cnt u.1 a)
    have e3 : dk_lef u (nI a) = dk_les u (nI 0) (nI a) (n - a) := by
      rw [nI_0]
      exact dk_lefN (by rw [h1]; congr 1; omega) (by omega)
    have hmo := dm_cnt_mono u.1 (show a ≤ n by omega)
    have hle := dm_cnt_le u.1 n
    rw [e3, dm_les (n - a) a 0 (by omega), h4, show a + (n - a) = n by omega, pk_sub (by omega)]
    congr 1
    omega
  · rw [if_neg q, if_neg q, if_neg (show ¬ ¬ (0 : Int32) = 0 by decide)]
    exact ⟨rfl, h'⟩
/-- the rows go down by d -/
theorem dm_sh {d : Nat} (hd : 1 ≤ d) : ∀ (m j : Nat) (ro : Nat → Int32), d ≤ j → j + m ≤ 3000 → ∀ i, mk_sh ro (nI d) (nI j) m i = if i < j - d then ro i else if i < j - d + m then ro (i + d) else ro i := by
  intro m
  induction m with
  | zero =>
    intro j ro h1 h2 i
    show ro i = _
    by_cases q : i < j - d
    · rw [if_pos q]
    · rw [if_neg q, if_neg (by omega)]
  | succ m ih =>
    intro j ro h1 h2 i
    show mk_sh (upd ro (nI j - nI d).toNatClampNeg (ro (nI j).toNatClampNeg)) (nI d) (nI j + 1) m i = _
    rw [pk_sub h1, nI_clamp (by omega), nI_clamp (by omega), nI_1, ih (j + 1) _ (by omega) (by omega) i]
    by_cases q : i < j - d
    · rw [if_pos (by omega), if_pos q, pk_un (by omega)]
    rw [if_neg q]
    by_cases q2 : i = j - d
    · rw [if_pos (by omega), if_pos (by omega), q2, pk_us, show j - d + d = j by omega]
    · rw [if_neg (by omega)]
      by_cases q3 : i < j - d + (m + 1)
      · rw [if_pos (by omega), if_pos q3, pk_un (by omega)]
      · rw [if_neg (by omega), if_neg q3, pk_un (by omega)]
def dm_bv (f : Nat → Int32) (t : Nat) : Nat := (f t &&& 255).toNatClampNeg
theorem dm_bv_ok (f : Nat → Int32) (t : Nat) : f t &&& 255 = nI (dm_bv f t) ∧ dm_bv f t < 256 := by
  obtain ⟨q, h1, h2⟩ := pk_andE (f t) (m := 255) 8 (by decide)
  have h3 : dm_bv f t = q := by unfold dm_bv; rw [h2, nI_clamp (by omega)]
  rw [h3, h2]
  exact ⟨rfl, h1⟩
def dm_A (f : Nat → Int32) (k d : Nat) : Nat → Nat
  | 0 => d
  | i + 1 => dm_A f k d i * 256 + (if i < d then dm_bv f (k + i) else 0)
theorem dm_A_lt (f : Nat → Int32) (k d : Nat) (hd : d ≤ 7) : ∀ i, dm_A f k d i < 8 * 256 ^ i
  | 0 => by show d < 8 * 1; omega
  | i + 1 => by
    have h := dm_A_lt f k d hd i
    have hb := (dm_bv_ok f (k + i)).2
    show dm_A f k d i * 256 + (if i < d then dm_bv f (k + i) else 0) < 8 * 256 ^ (i + 1)
    rw [Nat.pow_succ]
    have : (if i < d then dm_bv f (k + i) else 0) < 256 := by split <;> omega
    omega
theorem dm_A_zero (f : Nat → Int32) (k d : Nat) : ∀ t, dm_A f k d (d + t) = dm_A f k d d * 256 ^ t
  | 0 => by rw [Nat.add_zero, Nat.pow_zero, Nat.mul_one]
  | t + 1 => by
    show dm_A f k d (d + t) * 256 + (if d + t < d then dm_bv f (k + (d + t)) else 0) = _
    rw [if_neg (by omega), dm_A_zero f k d t, Nat.pow_succ, Nat.add_zero, Nat.mul_assoc]
theorem dm_p7 {i : Nat} (h : i ≤ 7) : 8 * 256 ^ i ≤ 8 * 256 ^ 7 := Nat.mul_le_mul_left _ (Nat.pow_le_pow_right (by decide) h)
/-- the class's piece -/
theorem dm_pc {u : DSt} {k d : Nat} (h2 : u.2.2.1 = nI k) (hd : d ≤ 7) (hk : k + 7 ≤ 4096) : ∀ m i : Nat, i + m ≤ 7 → dk_pc u (nI d) (lN (dm_A u.1 k d i)) (nI i) m = lN (dm_A u.1 k d (i + m)) := by
  intro m
  induction m with
  | zero => intro i _; rfl
  | succ m ih =>
    intro i hi
    show dk_pc u (nI d) ((lN (dm_A u.1 k d i) <<< ((nI 8).toInt64 &&& 63)) ||| (if nI d ≤ nI i then 0 else dk_at u (u.2.2.1 + nI i)).toInt64) (nI i + 1) m = _
    obtain ⟨b1, b2⟩ := dm_bv_ok u.1 (k + i)
    have e1 : (if nI d ≤ nI i then 0 else dk_at u (u.2.2.1 + nI i)) = nI (if i < d then dm_bv u.1 (k + i) else 0) := by
      by_cases q : i < d
      · rw [if_neg (nI_ge q (by omega)), if_pos q, h2, nI_add, dm_at (by omega), b1]
      · rw [if_pos (nI_le (by omega) (by omega)), if_neg q]; rfl
    have hlt : (if i < d then dm_bv u.1 (k + i) else 0) < 256 := by split <;> omega
    have hA := dm_A_lt u.1 k d hd i
    have hA1 := dm_A_lt u.1 k d hd (i + 1)
    have hp := dm_p7 (show i + 1 ≤ 7 by omega)
    have e2 : dm_A u.1 k d (i + 1) = dm_A u.1 k d i * 256 + (if i < d then dm_bv u.1 (k + i) else 0) := rfl
    rw [e1, wb_shl (k := 8) _ (by omega), nI_l (by omega), nI_1, show (2 : Nat) ^ 8 = 256 from rfl, g_or (k := 8) rfl hlt (by omega), ← e2, ih (i + 1) (by omega)]
    congr 2
    omega
/-- the reference's piece -/
theorem dm_t1 {f ro : Nat → Int32} {k d n : Nat} (h8 : ∀ i, i < n - k → ro i = f (k + i) &&& 255) (hd : d ≤ 7) (hdn : d ≤ n - k) : ∀ m i : Nat, i + m ≤ d → mk_t1 ro (lN (dm_A f k d i * 2 ^ (56 - 8 * i))) (nI i) m = lN (dm_A f k d (i + m) * 2 ^ (56 - 8 * (i + m))) := by
  intro m
  induction m with
  | zero => intro i _; rfl
  | succ m ih =>
    intro i hi
    show mk_t1 ro (lN (dm_A f k d i * 2 ^ (56 - 8 * i)) ||| ((ro (nI i).toNatClampNeg).toInt64 <<< ((nI 48 - nI 8 * nI i).toInt64 &&& 63))) (nI i + 1) m = _
    obtain ⟨b1, b2⟩ := dm_bv_ok f (k + i)
    have hA := dm_A_lt f k d hd (i + 1)
    have e2 : dm_A f k d (i + 1) = dm_A f k d i * 256 + dm_bv f (k + i) := by
      show dm_A f k d i * 256 + (if i < d then dm_bv f (k + i) else 0) = _
      rw [if_pos (by omega)]
    have hP : 2 ^ (56 - 8 * i) = 256 * 2 ^ (48 - 8 * i) := by
      rw [show 56 - 8 * i = 8 + (48 - 8 * i) by omega, Nat.pow_add]
    have hP1 : 2 ^ (56 - 8 * (i + 1)) = 2 ^ (48 - 8 * i) := by congr 1; omega
    have hpos : 0 < 2 ^ (48 - 8 * i) := Nat.two_pow_pos _
    have hsum : dm_A f k d i * 2 ^ (56 - 8 * i) + dm_bv f (k + i) * 2 ^ (48 - 8 * i) = dm_A f k d (i + 1) * 2 ^ (48 - 8 * i) := by
      rw [hP, e2, Nat.add_mul, Nat.mul_assoc]
    have hbig : dm_A f k d (i + 1) * 2 ^ (48 - 8 * i) < 2 ^ 64 := by
      have h1 : dm_A f k d (i + 1) * 2 ^ (48 - 8 * i) < 8 * 256 ^ (i + 1) * 2 ^ (48 - 8 * i) := Nat.mul_lt_mul_of_pos_right hA hpos
      have h2 : 8 * 256 ^ (i + 1) * 2 ^ (48 - 8 * i) = 2 ^ 59 := by
        rw [show (8 : Nat) = 2 ^ 3 from rfl, show (256 : Nat) = 2 ^ 8 from rfl, ← Nat.pow_mul, ← Nat.pow_add, ← Nat.pow_add]
        congr 1
        omega
      have h3 : (2 : Nat) ^ 59 < 2 ^ 64 := by decide
      omega
    have hless : dm_bv f (k + i) * 2 ^ (48 - 8 * i) < 2 ^ (56 - 8 * i) := by
      rw [hP]
      exact Nat.mul_lt_mul_of_pos_right b2 hpos
    rw [nI_clamp (by omega), h8 i (by omega), b1, nI_l (by omega), pk_mul, pk_sub (show 8 * i ≤ 48 by omega), wb_shl _ (by omega), nI_1, g_or rfl hless (by rw [hsum]; exact hbig), hsum, ← hP1, ih (i + 1) (by omega)]
    rw [show i + 1 + m = i + (m + 1) by omega]
theorem dm_min1 {q : Nat} (h : q < 8000) : (if (7 : Int32) < nI q then 7 else nI q) = nI (min q 7) := by
  by_cases c : 7 < q
  · rw [if_pos (show (7 : Int32) < nI q from nI_lt (a := 7) c (by omega)), show min q 7 = 7 by omega]; rfl
  · rw [if_neg (show ¬ (7 : Int32) < nI q from nI_nlt (a := 7) (by omega) (by omega)), show min q 7 = q by omega]
theorem dm_min2 {q : Nat} (h : q < 8000) : (if (7 : Int32) ≤ nI q then 7 else nI q) = nI (min q 7) := by
  by_cases c : 7 ≤ q
  · rw [if_pos (show (7 : Int32) ≤ nI q from nI_le (a := 7) c (by omega)), show min q 7 = 7 by omega]; rfl
  · rw [if_neg (show ¬ (7 : Int32) ≤ nI q from nI_ge (b := 7) (by omega) (by omega)), show min q 7 = q by omega]
theorem dm_take {j : Nat} {u : DSt} {v : MSt} (h : dmI j u v) (hj : j < 512) : (dk_take u).1 = (mk_take v).1 ∧ dmI (j + 1) (dk_take u).2 (mk_take v).2 := by
  have h' := dm_more h
  obtain ⟨n, k, hB, hK, hn, hs⟩ := h
  obtain ⟨e, e1, e2, e3, e4, e5, e6⟩ := dm_eoe hB hK
  obtain ⟨h1, h2, h3, h4, h5, h6, h7, h8, h9⟩ := hB
  have a1 : dk_sz u = nI (min (e - k) 7) := by
    unfold dk_sz
    rw [e1, h2, pk_sub e2]
    exact dm_min1 (by omega)
  have a2 : mk_n v = nI (min (e - k) 7) := by
    unfold mk_n
    rw [h5, e4, pk_sub (by omega), show n - k - (n - e) = e - k by omega]
    exact dm_min2 (by omega)
  unfold dk_take mk_take
  rw [a1, a2]
  generalize hde : min (e - k) 7 = d
  have hd : d ≤ 7 := by omega
  have hdk : k + d ≤ e := by omega
  by_cases q : d = 0
  · subst q
    unfold mk_take2
    rw [if_neg (show ¬ (0 : Int32) < nI 0 by decide), if_neg (show ¬ ¬ nI 0 = 0 by decide)]
    exact ⟨rfl, h'⟩
  unfold mk_take2
  rw [if_pos (show (0 : Int32) < nI d from nI_lt (a := 0) (by omega) (by omega)), if_pos (nI_ne0 (by omega) (by omega)), nI_clamp (by omega)]
  refine ⟨?_, n, k + d, ⟨h1, ?_, by omega, h4, ?_, ?_, ?_, ?_, ?_⟩, ?_, by omega, by omega⟩
  · show dk_pc u (nI d) (nI d).toInt64 0 7 = mk_t1 v.1 ((nI d).toInt64 <<< ((nI 56).toInt64 &&& 63)) 0 d
    have p1 := dm_pc (u := u) (k := k) (d := d) h2 hd (by omega) 7 0 (by omega)
    have p2 := dm_t1 (f := u.1) (ro := v.1) (k := k) (d := d) (n := n) h8 hd (by omega) d 0 (by omega)
    rw [Nat.zero_add, nI_0] at p1 p2
    rw [nI_l (by omega), wb_shl _ (by omega)]
    have p1 : dk_pc u (nI d) (lN d) 0 7 = lN (dm_A u.1 k d 7) := p1
    have p2 : mk_t1 v.1 (lN (d * 2 ^ 56)) 0 d = lN (dm_A u.1 k d d * 2 ^ (56 - 8 * d)) := p2
    rw [p1, p2]
    congr 1
    have p3 := dm_A_zero u.1 k d (7 - d)
    rw [show d + (7 - d) = 7 by omega] at p3
    rw [p3]
    congr 1
    rw [show (256 : Nat) = 2 ^ 8 from rfl, ← Nat.pow_mul]
    congr 1
    omega
  · show u.2.2.1 + nI d = nI (k + d)
    rw [h2, nI_add]
  · show v.2.1 - nI d = nI (n - (k + d))
    rw [h5, pk_sub (by omega)]
    congr 1
    omega
  · show v.2.2.2.2.1 + nI d = nI (k + d)
    rw [h6, nI_add]
  · show mk_cn v.1 v.2.2.2.2.2.2.1 0 (nI d).toNatClampNeg = nI (dm_cnt u.1 (k + d))
    have p := dm_cn h8 hs d 0 (by omega)
    rw [Nat.add_zero, nI_0] at p
    rw [nI_clamp (by omega), h7]
    exact p
  · intro i hi
    show mk_sh v.1 (nI d) (nI d) (v.2.1 - nI d).toNatClampNeg i = u.1 (k + d + i) &&& 255
    rw [h5, pk_sub (by omega), nI_clamp (by omega), dm_sh (by omega) (n - k - d) d v.1 (Nat.le_refl _) (by omega) i, if_neg (by omega), if_pos (by omega), h8 (i + d) (by omega), show k + (i + d) = k + d + i by omega]
  · show v.1 (nI d - 1).toNatClampNeg = 10 ↔ (k + d = 0 ∨ u.1 (k + d - 1) &&& 255 = 10)
    obtain ⟨b, rfl⟩ : ∃ b, d = b + 1 := ⟨d - 1, by omega⟩
    rw [nI_pred, nI_clamp (by omega), h8 b (by omega), show k + (b + 1) - 1 = k + b by omega]
    exact ⟨Or.inr, fun z => z.elim (fun z => by omega) id⟩
  · rcases hK with ⟨k1, k2, k3⟩ | ⟨o, k1, k2, k3, k4, k5, k6, k7⟩
    · exact Or.inl ⟨k1, k2, k3⟩
    · have hm : ¬ u.2.2.2.2.1 = -1 := fun q => k1 (by rw [q]; decide)
      exact Or.inr ⟨e, k1, k2, e6 hm, e4, by omega, by omega, by omega⟩
