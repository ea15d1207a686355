/-! the two states side by side: n bytes in all, k of them taken -/
def dm_cnt (f : Nat → Int32) : Nat → Nat
  | 0 => 0
  | n + 1 => dm_cnt f n + (if f n &&& 255 = 10 then 1 else 0)
theorem dm_cnt_upd (f : Nat → Int32) (n : Nat) (x : Int32) : ∀ m, m ≤ n → dm_cnt (upd f n x) m = dm_cnt f m
  | 0, _ => rfl
  | m + 1, h => by
    show dm_cnt (upd f n x) m + _ = dm_cnt f m + _
    rw [dm_cnt_upd f n x m (by omega), pk_un (by omega)]
theorem dm_cnt_le (f : Nat → Int32) (n : Nat) : dm_cnt f n ≤ n := by
  induction n with
  | zero => exact Nat.le_refl _
  | succ n ih =>
    show dm_cnt f n + (if f n &&& 255 = 10 then 1 else 0) ≤ n + 1
    split <;> omega
theorem dm_cnt_mono (f : Nat → Int32) {a b : Nat} (h : a ≤ b) : dm_cnt f a ≤ dm_cnt f b := by
  induction b with
  | zero => rw [show a = 0 by omega]; exact Nat.le_refl _
  | succ b ih =>
    by_cases e : a = b + 1
    · rw [e]; exact Nat.le_refl _
    · exact Nat.le_trans (ih (by omega)) (by show dm_cnt f b ≤ dm_cnt f b + _; omega)
def dmB (n k : Nat) (u : DSt) (v : MSt) : Prop := u.2.1 = nI n ∧ u.2.2.1 = nI k ∧ k ≤ n ∧ u.2.2.2.1 = nI (dm_cnt u.1 n) ∧ v.2.1 = nI (n - k) ∧ v.2.2.2.2.1 = nI k ∧ v.2.2.2.2.2.2.1 = nI (dm_cnt u.1 k) ∧ (∀ i, i < n - k → v.1 i = u.1 (k + i) &&& 255) ∧ (v.2.2.2.2.2.1 = 10 ↔ (k = 0 ∨ u.1 (k - 1) &&& 255 = 10))
def dmK (n k : Nat) (u : DSt) (v : MSt) : Prop := (u.2.2.2.2.1 = -1 ∧ v.2.2.2.1 = -1 ∧ v.2.2.1 = 0) ∨ ∃ o : Nat, ¬ u.2.2.2.2.1 < 0 ∧ v.2.2.2.1 = u.2.2.2.2.1 ∧ u.2.2.2.2.2 = nI o ∧ v.2.2.1 = nI (n - o) ∧ k ≤ o ∧ o ≤ n ∧ n - k + 1 ≤ 3000
def dmI (j : Nat) (u : DSt) (v : MSt) : Prop := ∃ n k : Nat, dmB n k u v ∧ dmK n k u v ∧ n ≤ 6 * j ∧ n - k ≤ 3000
theorem dm_ix {n : Nat} (h : n < 4096) : (nI n &&& 4095).toNatClampNeg = n := by
  rw [pk_andN (by omega) 12 (by decide), Nat.mod_eq_of_lt (by omega), nI_clamp (by omega)]
theorem dm_put {n k : Nat} {u : DSt} {v : MSt} {x b : Int32} (h : dmB n k u v) (hn : n < 4096) (hx : x &&& 255 = b) (hb : ¬ b = 10) : dmB (n + 1) k (dk_put u x) (mk_put v b) := by
  obtain ⟨f, tt, tk, en, ki, os⟩ := u
  obtain ⟨ro, sz, op, kd, ta, la, li, bt, mn⟩ := v
  obtain ⟨h1, h2, h3, h4, h5, h6, h7, h8, h9⟩ := h
  dsimp only at h1 h2 h4 h5 h6 h7 h8 h9
  subst h1 h2 h5
  have e1 : dk_put (f, nI n, nI k, en, ki, os) x = (upd f n x.toInt8.toInt32, nI (n + 1), nI k, en, ki, os) := by
    unfold dk_put
    dsimp only
    rw [dm_ix hn, nI_1]
  have e2 : mk_put (ro, nI (n - k), op, kd, ta, la, li, bt, mn) b = (upd ro (n - k) b, nI (n - k + 1), op + 1, kd, ta, la, li, bt, mn) := by
    unfold mk_put
    dsimp only
    rw [nI_clamp (by omega), nI_1]
  have hv : (upd f n x.toInt8.toInt32) n &&& 255 = b := by rw [pk_us, bp_b, hx]
  rw [e1, e2]
  refine ⟨rfl, rfl, by omega, ?_, ?_, h6, ?_, ?_, ?_⟩
  · show en = nI (dm_cnt (upd f n x.toInt8.toInt32) n + (if (upd f n x.toInt8.toInt32) n &&& 255 = 10 then 1 else 0))
    rw [hv, if_neg hb, dm_cnt_upd f n _ n (Nat.le_refl _)]
    exact h4
  · show nI (n - k + 1) = nI (n + 1 - k)
    congr 1
    omega
  · show li = nI (dm_cnt (upd f n x.toInt8.toInt32) k)
    rw [dm_cnt_upd f n _ k h3]
    exact h7
  · intro i hi
    show upd ro (n - k) b i = upd f n x.toInt8.toInt32 (k + i) &&& 255
    by_cases e : i = n - k
    · subst e
      rw [pk_us, show k + (n - k) = n by omega]
      exact hv.symm
    · rw [pk_un e, pk_un (by omega)]
      exact h8 i (by omega)
  · show la = 10 ↔ (k = 0 ∨ upd f n x.toInt8.toInt32 (k - 1) &&& 255 = 10)
    by_cases e : k = 0
    · exact ⟨fun _ => Or.inl e, fun _ => h9.mpr (Or.inl e)⟩
    · rw [pk_un (by omega)]
      exact h9
theorem dm_close {n k : Nat} {u : DSt} {v : MSt} (h : dmB n k u v) (hn : n < 4096) : dmB (n + 1) k (dk_endL u) (mk_close v) := by
  obtain ⟨f, tt, tk, en, ki, os⟩ := u
  obtain ⟨ro, sz, op, kd, ta, la, li, bt, mn⟩ := v
  obtain ⟨h1, h2, h3, h4, h5, h6, h7, h8, h9⟩ := h
  dsimp only at h1 h2 h4 h5 h6 h7 h8 h9
  subst h1 h2 h5
  have e1 : dk_endL (f, nI n, nI k, en, ki, os) = (upd f n (10 : Int32).toInt8.toInt32, nI (n + 1), nI k, en + 1, -1, os) := by
    unfold dk_endL dk_e2 dk_put
    dsimp only
    rw [dm_ix hn, nI_1]
  have e2 : mk_close (ro, nI (n - k), op, kd, ta, la, li, bt, mn) = (upd ro (n - k) 10, nI (n - k + 1), 0, -1, ta, la, li, bt, mn) := by
    unfold mk_close
    dsimp only
    rw [nI_clamp (by omega), nI_1]
  have hv : (upd f n (10 : Int32).toInt8.toInt32) n &&& 255 = 10 := by rw [pk_us]; decide
  rw [e1, e2]
  refine ⟨rfl, rfl, by omega, ?_, ?_, h6, ?_, ?_, ?_⟩
  · show en + 1 = nI (dm_cnt (upd f n (10 : Int32).toInt8.toInt32) n + (if (upd f n (10 : Int32).toInt8.toInt32) n &&& 255 = 10 then 1 else 0))
    rw [if_pos hv, dm_cnt_upd f n _ n (Nat.le_refl _), h4]
    exact nI_1 _
  · show nI (n - k + 1) = nI (n + 1 - k)
    congr 1
    omega
  · show li = nI (dm_cnt (upd f n (10 : Int32).toInt8.toInt32) k)
    rw [dm_cnt_upd f n _ k h3]
    exact h7
  · intro i hi
    show upd ro (n - k) 10 i = upd f n (10 : Int32).toInt8.toInt32 (k + i) &&& 255
    by_cases e : i = n - k
    · subst e
      rw [pk_us, show k + (n - k) = n by omega]
      exact hv.symm
    · rw [pk_un e, pk_un (by omega)]
      exact h8 i (by omega)
  · show la = 10 ↔ (k = 0 ∨ upd f n (10 : Int32).toInt8.toInt32 (k - 1) &&& 255 = 10)
    by_cases e : k = 0
    · exact ⟨fun _ => Or.inl e, fun _ => h9.mpr (Or.inl e)⟩
    · rw [pk_un (by omega)]
      exact h9
/-- a character's bytes, one after the other, on both sides -/
theorem dm_puts : ∀ (l : List Int32) (n k i : Nat) (u : DSt) (v : MSt), dmB n k u v → n + l.length ≤ 4096 → (∀ (t : Nat) (x : Int32), l[t]? = some x → x &&& 255 = v.2.2.2.2.2.2.2.1 (i + t) ∧ ¬ v.2.2.2.2.2.2.2.1 (i + t) = 10) → i + l.length ≤ 4 → dmB (n + l.length) k (l.foldl dk_put u) (mk_puts v (nI i) l.length) ∧ (l.foldl dk_put u).2.2.2.2.1 = u.2.2.2.2.1 ∧ (l.foldl dk_put u).2.2.2.2.2 = u.2.2.2.2.2 ∧ (mk_puts v (nI i) l.length).2.2.2.1 = v.2.2.2.1 ∧ (mk_puts v (nI i) l.length).2.2.1 = v.2.2.1 + nI l.length
  | [], n, k, i, u, v, h, _, _, _ => by
    refine ⟨h, rfl, rfl, rfl, ?_⟩
    show v.2.2.1 = v.2.2.1 + nI 0
    rw [nI_0, Int32.add_zero]
  | x :: l, n, k, i, u, v, h, hn, hx, hi => by
    have hl : (x :: l).length = l.length + 1 := rfl
    rw [hl] at hn hi ⊢
    have h0 := hx 0 x rfl
    rw [Nat.add_zero] at h0
    have h1 := dm_put h (by omega) h0.1 h0.2
    have e0 : (nI i).toNatClampNeg = i := nI_clamp (by omega)
    have e1 : mk_puts v (nI i) (l.length + 1) = mk_puts (mk_put v (v.2.2.2.2.2.2.2.1 i)) (nI (i + 1)) l.length := by
      show mk_puts (mk_put v (v.2.2.2.2.2.2.2.1 (nI i).toNatClampNeg)) (nI i + 1) l.length = _
      rw [e0, nI_1]
    have h2 := dm_puts l (n + 1) k (i + 1) (dk_put u x) (mk_put v (v.2.2.2.2.2.2.2.1 i)) h1 (by omega) (fun t y hy => by
      have := hx (t + 1) y hy
      rw [show i + 1 + t = i + (t + 1) by omega]
      exact this) (by omega)
    obtain ⟨a1, a2, a3, a4, a5⟩ := h2
    rw [e1]
    refine ⟨?_, a2, a3, a4, ?_⟩
    · rw [show n + (l.length + 1) = n + 1 + l.length by omega]
      exact a1
    · rw [a5]
      show v.2.2.1 + 1 + nI l.length = v.2.2.1 + nI (l.length + 1)
      rw [← nI_1, Int32.add_assoc, Int32.add_comm 1]
theorem dm_fb (k : Int32) : dk_fb k &&& 255 = mk_fb k ∧ ¬ mk_fb k = 10 := by
  unfold dk_fb mk_fb
  by_cases h0 : k = 0
  · subst h0; decide
  by_cases h1 : k = 1
  · subst h1; decide
  by_cases h2 : k = 2
  · subst h2; decide
  by_cases h3 : k = 3
  · subst h3; decide
  rw [if_neg h0, if_neg h1, if_neg h2, if_neg h3, if_pos h0, if_pos h1, if_pos h2, if_pos h3]
  decide
theorem dm_neg1 : (-1 : Int32) < 0 := by decide
/-- a line is opened on both sides -/
theorem dm_open {n k : Nat} {u : DSt} {v : MSt} {c : Int32} (h : dmB n k u v) (hk : dmK n k u v) (hn : n + 2 ≤ 4096) (hr : (if u.2.2.2.2.1 = -1 then n + 1 else n + 2) - k + 1 ≤ 3000) (hc : ¬ c < 0) : ∃ o, (o = n ∨ o = n + 1) ∧ o = (if u.2.2.2.2.1 = -1 then n else n + 1) ∧ dmB (o + 1) k (dk_open u c) (mk_start v c) ∧ dmK (o + 1) k (dk_open u c) (mk_start v c) ∧ (dk_open u c).2.2.2.2.1 = c ∧ (mk_start v c).2.2.2.2.2.2.2 = v.2.2.2.2.2.2.2 := by
  have h3 := h.2.2.1
  have hf := dm_fb c
  rcases hk with ⟨k1, k2, k3⟩ | ⟨o, k1, k2, k3, k4, k5, k6, k7⟩
  · have e1 : dk_open u c = dk_put (dk_o2 u c) (dk_fb c) := by unfold dk_open; rw [if_pos k1]
    have e2 : mk_start v c = mk_put (mk_sk v c) (mk_fb c) := by unfold mk_start; rw [if_pos (by rw [k2]; decide)]
    have hB : dmB n k (dk_o2 u c) (mk_sk v c) := h
    have h1 := dm_put hB (by omega) hf.1 hf.2
    rw [if_pos k1] at hr
    refine ⟨n, Or.inl rfl, by rw [if_pos k1], ?_, ?_, ?_, ?_⟩
    · rw [e1, e2]; exact h1
    · rw [e1, e2]
      refine Or.inr ⟨n, hc, rfl, h.1, ?_, h3, by omega, by omega⟩
      show v.2.2.1 + 1 = nI (n + 1 - n)
      rw [k3, show n + 1 - n = 1 by omega]
      decide
    · rw [e1]; rfl
    · rw [e2]; rfl
  · have hm : ¬ u.2.2.2.2.1 = -1 := fun q => k1 (by rw [q]; decide)
    have e1 : dk_open u c = dk_put (dk_o2 (dk_endL u) c) (dk_fb c) := by unfold dk_open; rw [if_neg hm]
    have e2 : mk_start v c = mk_put (mk_sk (mk_close v) c) (mk_fb c) := by unfold mk_start; rw [if_neg (by rw [k2]; exact k1)]
    have hC := dm_close h (by omega)
    have hB : dmB (n + 1) k (dk_o2 (dk_endL u) c) (mk_sk (mk_close v) c) := hC
    have h1 := dm_put hB (by omega) hf.1 hf.2
    rw [if_neg hm] at hr
    refine ⟨n + 1, Or.inr rfl, by rw [if_neg hm], ?_, ?_, ?_, ?_⟩
    · rw [e1, e2]; exact h1
    · rw [e1, e2]
      refine Or.inr ⟨n + 1, hc, rfl, hC.1, ?_, by omega, by omega, by omega⟩
      show (0 : Int32) + 1 = nI (n + 1 + 1 - (n + 1))
      rw [show n + 1 + 1 - (n + 1) = 1 by omega]
      decide
    · rw [e1]; rfl
    · rw [e2]; rfl
