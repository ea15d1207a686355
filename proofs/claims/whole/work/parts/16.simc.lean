/-! call by call: the same answer, and the states stand side by side again -/
theorem dm_more {j : Nat} {u : DSt} {v : MSt} (h : dmI j u v) : dmI (j + 1) u v := by
  obtain ⟨n, k, h1, h2, h3, h4⟩ := h
  exact ⟨n, k, h1, h2, by omega, h4⟩
theorem dm_room {n k m : Nat} {u : DSt} {v : MSt} (h : dmB n k u v) (hn : n < 4096) (hm : m ≤ 100) : dk_room u (nI m) = if n - k + m + 1 ≤ 3000 then 1 else 0 := by
  obtain ⟨h1, h2, h3, -⟩ := h
  unfold dk_room
  rw [h1, h2, pk_sub h3, nI_add, nI_1]
  by_cases q : n - k + m + 1 ≤ 3000
  · rw [if_pos q, if_neg (show ¬ (3000 : Int32) < nI (n - k + m + 1) from nI_nlt (a := 3000) q (by omega))]
  · rw [if_neg q, if_pos (show (3000 : Int32) < nI (n - k + m + 1) from nI_lt (a := 3000) (by omega) (by omega))]
theorem dm_roomM {x : Nat} (hx : x < 8000) : (nI x ≤ (3000 : Int32)) ↔ x ≤ 3000 := nI_leI (b := 3000) (by omega) (by omega)
theorem dm_begin {j : Nat} {u : DSt} {v : MSt} (h : dmI j u v) (hj : j < 512) (c : Int32) : (dk_begin u c).1 = (mk_begin v c).1 ∧ dmI (j + 1) (dk_begin u c).2 (mk_begin v c).2 := by
  have h' := dm_more h
  obtain ⟨n, k, hB, hK, hn, hs⟩ := h
  have h3 := hB.2.2.1
  have h5 := hB.2.2.2.2.1
  unfold dk_begin mk_begin
  by_cases c0 : c < 0
  · rw [if_pos c0, if_pos c0]; exact ⟨rfl, h'⟩
  rw [if_neg c0, if_neg c0]
  by_cases c1 : 3 < c
  · rw [if_pos c1, if_pos c1]; exact ⟨rfl, h'⟩
  rw [if_neg c1, if_neg c1]
  have hKK := hK
  rcases hK with ⟨k1, k2, k3⟩ | ⟨o, k1, k2, k3, k4, k5, k6, k7⟩
  · have e1 : dk_bto u = nI 1 := by unfold dk_bto; rw [if_neg (not_not_intro k1)]; rfl
    have e2 : v.2.1 + 0 + 2 = nI (n - k + 2) := by rw [h5, Int32.add_zero]; exact nI_add (n - k) 2
    rw [e1, dm_room hB (by omega) (by omega), if_pos (show v.2.2.2.1 < 0 by rw [k2]; decide), e2]
    by_cases q : n - k + 2 ≤ 3000
    · rw [if_pos (show n - k + 1 + 1 ≤ 3000 by omega), if_pos (show ¬ (1 : Int32) = 0 by decide), if_pos ((dm_roomM (by omega)).mpr q)]
      obtain ⟨o, -, ho, b1, b2, -⟩ := dm_open (c := c) hB hKK (by omega) (by rw [if_pos k1]; omega) c0
      rw [if_pos k1] at ho
      exact ⟨rfl, o + 1, k, b1, b2, by omega, by omega⟩
    · rw [if_neg (show ¬ n - k + 1 + 1 ≤ 3000 by omega), if_neg (show ¬ ¬ (0 : Int32) = 0 by decide), if_neg (fun z => q ((dm_roomM (by omega)).mp z))]
      exact ⟨rfl, h'⟩
  · have hm : ¬ u.2.2.2.2.1 = -1 := fun q => k1 (by rw [q]; decide)
    have e1 : dk_bto u = nI 2 := by unfold dk_bto; rw [if_pos hm]; rfl
    have e2 : v.2.1 + 1 + 2 = nI (n - k + 3) := by rw [h5, nI_1]; exact nI_add (n - k + 1) 2
    rw [e1, dm_room hB (by omega) (by omega), if_neg (show ¬ v.2.2.2.1 < 0 by rw [k2]; exact k1), e2]
    by_cases q : n - k + 3 ≤ 3000
    · rw [if_pos (show n - k + 2 + 1 ≤ 3000 by omega), if_pos (show ¬ (1 : Int32) = 0 by decide), if_pos ((dm_roomM (by omega)).mpr q)]
      obtain ⟨o, -, ho, b1, b2, -⟩ := dm_open (c := c) hB hKK (by omega) (by rw [if_neg hm]; omega) c0
      rw [if_neg hm] at ho
      exact ⟨rfl, o + 1, k, b1, b2, by omega, by omega⟩
    · rw [if_neg (show ¬ n - k + 2 + 1 ≤ 3000 by omega), if_neg (show ¬ ¬ (0 : Int32) = 0 by decide), if_neg (fun z => q ((dm_roomM (by omega)).mp z))]
      exact ⟨rfl, h'⟩
theorem dm_addc {n k : Nat} {u : DSt} {w : MSt} {c : Int32} {l : List Int32} (hl : dm_bytes c l) (h : dmB n k u w) (hK : dmK n k u w) (ho : ¬ u.2.2.2.2.1 < 0) (hg : w.2.2.2.2.2.2.2.2 = nI l.length) (hb : ∀ (t : Nat) (x : Int32), l[t]? = some x → x &&& 255 = w.2.2.2.2.2.2.2.1 t ∧ ¬ w.2.2.2.2.2.2.2.1 t = 10) (hn : n + l.length ≤ 4096) (hr : n + l.length - k + 1 ≤ 3000) : dmB (n + l.length) k (dk_putC u c) (mk_pall w) ∧ dmK (n + l.length) k (dk_putC u c) (mk_pall w) := by
  obtain ⟨l1, l2, l3, l4, l5⟩ := hl
  have e1 : mk_pall w = mk_puts w (nI 0) l.length := by
    unfold mk_pall
    rw [hg, nI_clamp (by omega), nI_0]
  obtain ⟨a1, a2, a3, a4, a5⟩ := dm_puts l n k 0 u w h hn (fun t x hx => by rw [Nat.zero_add]; exact hb t x hx) (by omega)
  rw [l4, e1]
  refine ⟨a1, ?_⟩
  rcases hK with ⟨k1, k2, k3⟩ | ⟨o, k1, k2, k3, k4, k5, k6, k7⟩
  · exact absurd (by rw [k1]; decide) ho
  · refine Or.inr ⟨o, by rw [a2]; exact k1, by rw [a4, a2]; exact k2, by rw [a3]; exact k3, ?_, k5, by omega, hr⟩
    rw [a5, k4, nI_add]
    congr 1
    omega
theorem dm_one : (if ¬ (1 : Int32) = 0 then (1 : Int32) else 0) = 1 := by decide
theorem dm_add {j : Nat} {u : DSt} {v : MSt} (h : dmI j u v) (hj : j < 512) (c : Int32) : (dk_add u c).1 = (mk_add v c).1 ∧ dmI (j + 1) (dk_add u c).2 (mk_add v c).2 := by
  have h' := dm_more h
  obtain ⟨n, k, hB, hK, hn, hs⟩ := h
  have h3 := hB.2.2.1
  have h5 := hB.2.2.2.2.1
  unfold dk_add mk_add
  have hKK := hK
  rcases hK with ⟨k1, k2, k3⟩ | ⟨o, k1, k2, k3, k4, k5, k6, k7⟩
  · rw [if_pos k1, if_pos (show v.2.2.2.1 < 0 by rw [k2]; decide)]; exact ⟨rfl, h'⟩
  have hm : ¬ u.2.2.2.2.1 = -1 := fun q => k1 (by rw [q]; decide)
  rw [if_neg hm, if_neg (show ¬ v.2.2.2.1 < 0 by rw [k2]; exact k1)]
  by_cases q4 : u.2.2.2.2.1 = 4
  · rw [if_pos q4, if_pos (show v.2.2.2.1 = 4 by rw [k2]; exact q4)]; exact ⟨rfl, h'⟩
  rw [if_neg q4, if_neg (show ¬ v.2.2.2.1 = 4 by rw [k2]; exact q4)]
  by_cases hc : dm_ch c
  · obtain ⟨l, hl⟩ := dm_char hc
    have hl' := hl
    obtain ⟨l1, l2, l3, l4, l5⟩ := hl'
    obtain ⟨g, g1, g2⟩ := l5 v
    rw [dm_isC hc, if_pos (show ¬ (1 : Int32) = 0 by decide), l3, dm_room hB (by omega) (by omega), g1]
    have e2 : (mk_sb v g (nI l.length)).2.1 + (mk_sb v g (nI l.length)).2.2.2.2.2.2.2.2 + 1 = nI (n - k + l.length + 1) := by
      show v.2.1 + nI l.length + 1 = _
      rw [h5, nI_add, nI_1]
    unfold mk_add2
    dsimp only
    rw [if_neg (show ¬ (1 : Int32) = 0 by decide), e2]
    by_cases q : n - k + l.length + 1 ≤ 3000
    · rw [if_pos q, if_pos (show ¬ (1 : Int32) = 0 by decide), if_pos ((dm_roomM (by omega)).mpr q)]
      obtain ⟨b1, b2⟩ := dm_addc (w := mk_sb v g (nI l.length)) hl hB hKK k1 rfl g2 (by omega) (by omega)
      exact ⟨rfl, n + l.length, k, b1, b2, by omega, by omega⟩
    · rw [if_neg q, if_neg (show ¬ ¬ (0 : Int32) = 0 by decide), if_neg (fun z => q ((dm_roomM (by omega)).mp z))]
      exact ⟨rfl, h'⟩
  · obtain ⟨c1, c2⟩ := dm_notC hc
    rw [c1, if_neg (show ¬ ¬ (0 : Int32) = 0 by decide), c2 v]
    unfold mk_add2
    dsimp only
    rw [if_pos rfl]
    exact ⟨rfl, h'⟩
theorem dm_text {j : Nat} {u : DSt} {v : MSt} (h : dmI j u v) (hj : j < 512) (c : Int32) : (dk_text u c).1 = (mk_text v c).1 ∧ dmI (j + 1) (dk_text u c).2 (mk_text v c).2 := by
  have h' := dm_more h
  obtain ⟨n, k, hB, hK, hn, hs⟩ := h
  have h3 := hB.2.2.1
  have h5 := hB.2.2.2.2.1
  unfold dk_text mk_text
  by_cases hc : dm_ch c
  · obtain ⟨l, hl⟩ := dm_char hc
    have hl' := hl
    obtain ⟨l1, l2, l3, l4, l5⟩ := hl'
    obtain ⟨g, g1, g2⟩ := l5 v
    rw [dm_isC hc, if_pos (show ¬ (1 : Int32) = 0 by decide), l3, g1]
    generalize hw : mk_sb v g (nI l.length) = w
    have w1 : w.2.1 = nI (n - k) := by rw [← hw]; exact h5
    have w2 : w.2.2.2.2.2.2.2.2 = nI l.length := by rw [← hw]; rfl
    have w3 : w.2.2.2.2.2.2.2.1 = g := by rw [← hw]; rfl
    have w4 : w.2.2.2.1 = v.2.2.2.1 := by rw [← hw]; rfl
    have hBw : dmB n k u w := by rw [← hw]; exact hB
    have hKw : dmK n k u w := by rw [← hw]; exact hK
    have hIw : dmI (j + 1) u w := ⟨n, k, hBw, hKw, by omega, hs⟩
    have g2 : ∀ (t : Nat) (x : Int32), l[t]? = some x → x &&& 255 = w.2.2.2.2.2.2.2.1 t ∧ ¬ w.2.2.2.2.2.2.2.1 t = 10 := by rw [w3]; exact g2
    unfold mk_text2
    dsimp only
    rw [if_pos (show ¬ (1 : Int32) = 0 by decide)]
    have hKw' := hKw
    rcases hKw' with ⟨k1, k2, k3⟩ | ⟨o, k1, k2, k3, k4, k5, k6, k7⟩
    · have q4 : ¬ u.2.2.2.2.1 = 4 := by rw [k1]; decide
      have m4 : ¬ w.2.2.2.1 = 4 := by rw [k2]; decide
      have e1 : dk_bto u + nI l.length = nI (1 + l.length) := by
        unfold dk_bto; rw [if_neg (not_not_intro k1)]; exact nI_add 1 _
      have e2 : w.2.1 + 1 + w.2.2.2.2.2.2.2.2 + 1 = nI (n - k + 1 + l.length + 1) := by rw [w1, w2, nI_1, nI_add, nI_1]
      rw [if_pos q4, e1, dm_room hB (by omega) (by omega), if_pos m4, if_pos (show w.2.2.2.1 < 0 by rw [k2]; decide)]
      unfold mk_text3
      rw [e2]
      by_cases q : n - k + (1 + l.length) + 1 ≤ 3000
      · rw [if_pos q, if_pos (show ¬ (1 : Int32) = 0 by decide), if_pos ((dm_roomM (by omega)).mpr (by omega)), if_neg m4]
        obtain ⟨o, -, ho, b1, b2, b3, b4⟩ := dm_open (c := 4) hBw hKw (by omega) (by rw [if_pos k1]; omega) (by decide)
        rw [if_pos k1] at ho
        obtain ⟨d1, d2⟩ := dm_addc hl b1 b2 (by rw [b3]; decide) (by rw [b4]; exact w2) (by rw [b4]; exact g2) (by omega) (by omega)
        exact ⟨rfl, o + 1 + l.length, k, d1, d2, by omega, by omega⟩
      · rw [if_neg q, if_neg (show ¬ ¬ (0 : Int32) = 0 by decide), if_neg (fun z => q (by have := (dm_roomM (by omega)).mp z; omega))]
        exact ⟨rfl, hIw⟩
    · have hm : ¬ u.2.2.2.2.1 = -1 := fun q => k1 (by rw [q]; decide)
      have n0 : ¬ w.2.2.2.1 < 0 := by rw [k2]; exact k1
      by_cases q4 : u.2.2.2.2.1 = 4
      · have m4 : w.2.2.2.1 = 4 := by rw [k2]; exact q4
        have e1 : (0 : Int32) + nI l.length = nI l.length := Int32.zero_add _
        have e2 : w.2.1 + 0 + w.2.2.2.2.2.2.2.2 + 1 = nI (n - k + l.length + 1) := by rw [w1, w2, Int32.add_zero, nI_add, nI_1]
        rw [if_neg (not_not_intro q4), e1, dm_room hB (by omega) (by omega), if_neg (not_not_intro m4)]
        unfold mk_text3
        rw [e2]
        by_cases q : n - k + l.length + 1 ≤ 3000
        · rw [if_pos q, if_pos (show ¬ (1 : Int32) = 0 by decide), if_pos ((dm_roomM (by omega)).mpr q), if_pos m4]
          obtain ⟨d1, d2⟩ := dm_addc hl hBw hKw k1 w2 g2 (by omega) (by omega)
          exact ⟨rfl, n + l.length, k, d1, d2, by omega, by omega⟩
        · rw [if_neg q, if_neg (show ¬ ¬ (0 : Int32) = 0 by decide), if_neg (fun z => q ((dm_roomM (by omega)).mp z))]
          exact ⟨rfl, hIw⟩
      · have m4 : ¬ w.2.2.2.1 = 4 := by rw [k2]; exact q4
        have e1 : dk_bto u + nI l.length = nI (2 + l.length) := by
          unfold dk_bto; rw [if_pos hm]; exact nI_add 2 _
        have e2 : w.2.1 + 2 + w.2.2.2.2.2.2.2.2 + 1 = nI (n - k + 2 + l.length + 1) := by rw [w1, w2, show nI (n - k) + 2 = nI (n - k + 2) from nI_add (n - k) 2, nI_add, nI_1]
        rw [if_pos q4, e1, dm_room hB (by omega) (by omega), if_pos m4, if_neg n0]
        unfold mk_text3
        rw [e2]
        by_cases q : n - k + (2 + l.length) + 1 ≤ 3000
        · rw [if_pos q, if_pos (show ¬ (1 : Int32) = 0 by decide), if_pos ((dm_roomM (by omega)).mpr (by omega)), if_neg m4]
          obtain ⟨o, -, ho, b1, b2, b3, b4⟩ := dm_open (c := 4) hBw hKw (by omega) (by rw [if_neg hm]; omega) (by decide)
          rw [if_neg hm] at ho
          obtain ⟨d1, d2⟩ := dm_addc hl b1 b2 (by rw [b3]; decide) (by rw [b4]; exact w2) (by rw [b4]; exact g2) (by omega) (by omega)
          exact ⟨rfl, o + 1 + l.length, k, d1, d2, by omega, by omega⟩
        · rw [if_neg q, if_neg (show ¬ ¬ (0 : Int32) = 0 by decide), if_neg (fun z => q (by have := (dm_roomM (by omega)).mp z; omega))]
          exact ⟨rfl, hIw⟩
  · obtain ⟨c1, c2⟩ := dm_notC hc
    rw [c1, if_neg (show ¬ ¬ (0 : Int32) = 0 by decide), c2 v]
    unfold mk_text2
    dsimp only
    rw [if_neg (show ¬ ¬ (0 : Int32) = 0 by decide)]
    exact ⟨rfl, h'⟩
theorem dm_end {j : Nat} {u : DSt} {v : MSt} (h : dmI j u v) (hj : j < 512) : (dk_end u).1 = (mk_end v).1 ∧ dmI (j + 1) (dk_end u).2 (mk_end v).2 := by
  have h' := dm_more h
  obtain ⟨n, k, hB, hK, hn, hs⟩ := h
  have h3 := hB.2.2.1
  unfold dk_end mk_end
  rcases hK with ⟨k1, k2, k3⟩ | ⟨o, k1, k2, k3, k4, k5, k6, k7⟩
  · rw [if_pos k1, if_pos (show v.2.2.2.1 < 0 by rw [k2]; decide)]
    exact ⟨by rw [k1, k2], h'⟩
  · have hm : ¬ u.2.2.2.2.1 = -1 := fun q => k1 (by rw [q]; decide)
    rw [if_neg hm, if_neg (show ¬ v.2.2.2.1 < 0 by rw [k2]; exact k1)]
    exact ⟨k2.symm, n + 1, k, dm_close hB (by omega), Or.inl ⟨rfl, rfl, rfl⟩, by omega, by omega⟩
theorem dm_mark {j : Nat} {u : DSt} {v : MSt} (h : dmI j u v) : dk_mark u = mk_mark v := by
  obtain ⟨n, k, hB, hK, hn, hs⟩ := h
  obtain ⟨h1, h2, h3, h4, h5, h6, -⟩ := hB
  unfold dk_mark mk_mark
  rcases hK with ⟨k1, k2, k3⟩ | ⟨o, k1, k2, k3, k4, k5, k6, k7⟩
  · rw [if_neg (not_not_intro k1), if_pos (show v.2.2.2.1 < 0 by rw [k2]; decide), h1, h6, h5, nI_add]
    congr 1
    omega
  · have hm : ¬ u.2.2.2.2.1 = -1 := fun q => k1 (by rw [q]; decide)
    rw [if_pos hm, if_neg (show ¬ v.2.2.2.1 < 0 by rw [k2]; exact k1)]
/-- lines among the rows -/
theorem dm_cn {n k : Nat} {f ro : Nat → Int32} (h8 : ∀ i, i < n - k → ro i = f (k + i) &&& 255) (hn : n - k ≤ 3000) : ∀ m i, i + m ≤ n - k → mk_cn ro (nI (dm_cnt f (k + i))) (nI i) m = nI (dm_cnt f (k + i + m)) := by
  intro m
  induction m with
  | zero => intro i _; rfl
  | succ m ih =>
    intro i hi
    show mk_cn ro (nI (dm_cnt f (k + i)) + (if ¬ ro (nI i).toNatClampNeg = 10 then 0 else 1)) (nI i + 1) m = _
    rw [nI_clamp (by omega), h8 i (by omega), nI_1]
    have e : nI (dm_cnt f (k + i)) + (if ¬ f (k + i) &&& 255 = 10 then 0 else 1) = nI (dm_cnt f (k + (i + 1))) := by
      show _ = nI (dm_cnt f (k + i) + (if f (k + i) &&& 255 = 10 then 1 else 0))
      by_cases q : f (k + i) &&& 255 = 10
      · rw [if_neg (not_not_intro q), if_pos q]; exact nI_1 _
      · rw [if_pos q, if_neg q]; exact Int32.add_zero _
    rw [e, ih (i + 1) (by omega)]
    congr 2
    omega
theorem dm_eoe {n k : Nat} {u : DSt} {v : MSt} (hB : dmB n k u v) (hK : dmK n k u v) : ∃ e : Nat, dk_eoe u = nI e ∧ k ≤ e ∧ e ≤ n ∧ v.2.2.1 = nI (n - e) ∧ (u.2.2.2.2.1 = -1 → e = n) ∧ (¬ u.2.2.2.2.1 = -1 → u.2.2.2.2.2 = nI e) := by
  obtain ⟨h1, h2, h3, -⟩ := hB
  unfold dk_eoe
  rcases hK with ⟨k1, k2, k3⟩ | ⟨o, k1, k2, k3, k4, k5, k6, k7⟩
  · rw [if_neg (not_not_intro k1)]
    exact ⟨n, h1, h3, Nat.le_refl _, by rw [k3, Nat.sub_self]; rfl, fun _ => rfl, fun q => absurd k1 q⟩
  · have hm : ¬ u.2.2.2.2.1 = -1 := fun q => k1 (by rw [q]; decide)
    rw [if_pos hm]
    exact ⟨o, k3, k5, k6, k4, fun q => absurd q hm, fun _ => k3⟩
theorem dm_count {j : Nat} {u : DSt} {v : MSt} (h : dmI j u v) (hj : j ≤ 512) (c : Int32) : dk_count u c = mk_count v c := by
  obtain ⟨n, k, hB, hK, hn, hs⟩ := h
  obtain ⟨e, e1, e2, e3, e4, -⟩ := dm_eoe hB hK
  obtain ⟨h1, h2, h3, h4, h5, h6, h7, h8, h9⟩ := hB
  unfold dk_count mk_count
  by_cases c0 : c = 0
  · rw [if_pos c0, if_pos c0, h1, h2, h5, pk_sub h3]
  rw [if_neg c0, if_neg c0]
  by_cases c1 : c = 1
  · rw [if_pos c1, if_pos c1, h4, h5, h7, nI_clamp (by omega)]
    have := dm_cn h8 hs (n - k) 0 (by omega)
    rw [Nat.add_zero, nI_0] at this
    rw [this]
    congr 2
    omega
  rw [if_neg c1, if_neg c1]
  by_cases c2 : c = 2
  · rw [if_pos c2, if_pos c2]
    rcases hK with ⟨k1, k2, k3⟩ | ⟨o, k1, k2, k3, k4, k5, k6, k7⟩
    · rw [k1, k2]
    · exact k2.symm
  rw [if_neg c2, if_neg c2]
  by_cases c3 : c = 3
  · rw [if_pos c3, if_pos c3, e1, h1, e4, pk_sub e3]
  rw [if_neg c3, if_neg c3]
