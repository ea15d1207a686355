/-! THE CLAIM OUT OF ONE WALK OF THE LAW'S BODY. Your part is whole_start (and what it stands on); all else here is the same for every law, but numbers. -/
def R_law : String := "EventLineDeskLaw"
def lw_P (b : Addr) (xs : List Int32) (args : Array Value) (s : State) : Prop := args = #[.ref b] ∧ s.IntsAt b xs ∧ xs.length ≤ 1024 ∧ (Jvm.Cond.and given_1 narrow_1).before args s = true
def lw_Q (_ : Array Value) (s : State) (o : Outcome) (t : State) : Prop := o = .returned (some (.int 1)) ∧ Framed s o t [] 5 7115
def lw_Z (below : List Frame) (a : Array Value) (s : State) : State → Prop := fun t => ∃ o, t.status = .running ∧ Ended t below o ∧ lw_Q a s o t
/-- the law's own end, with 1 on the stack, nothing written that was there before, its room as the claim has it -/
theorem lw_ret {p : Program} {l : Launch} {e : Env} {s : State} {m : MethodId} {below : List Frame} {meth : Method} {c : Code} {b : Nat} (hx : p.tables.exec = Jvm.exec) (hb : c.code = code) (hr : meth.sig.returnType = ret) (hlocks : meth.locks = false) {pc : Nat} {H : Heap} {ls : Array Slot} (hdg : decode code pc = .ok (.ireturn, 1)) : W p l e room_1 s m #[Value.ref b] below meth c H [] 5 7115 (lw_Z below #[Value.ref b] s) (F0 m pc ls [.int 1]) := by
  intro T hT X
  obtain ⟨fs, hret, hrun, hended, hW, hframe⟩ := X.leave (v := some (.int 1)) (hlocks := hlocks) (fun h => by rw [hr] at h; cases h)
  have hmeth' : T.vm.method? m = some meth := X.method'
  refine ⟨T.setFrames fs, ?_, .returned (some (.int 1)), hrun, hended, rfl, ⟨_, rfl⟩, hW, hframe⟩
  jvm_step X.here [X.here.top, hx, hb, hdg, hmeth', hr, ret, narrow_b1]
  (try refine ⟨rfl, ?_⟩); (try refine ⟨rfl, ?_⟩)
  first | (intro acts; rw [hret _ acts rfl rfl rfl]) | rw [hret _ _ rfl rfl rfl]
  exact Steps.refl _
/-- what holds at the law's entry: the machine, the code, the tables' words (any of lw_tbl by 'hts w (by decide +kernel)'), the script of L ints xs at the cell b, what the Statement gives of the start (any of its parts by flat_of_before) -/
def lw_At (p : Program) (s : State) (m : MethodId) (meth : Method) (c : Code) (b L : Nat) (xs : Nat → Int32) : Prop :=
  p.tables.exec = Jvm.exec ∧ c.code = code ∧ meth.sig.returnType = ret ∧ c.maxLocals = 4 ∧ s.vm.findClass R_law = some m.cls ∧ (∀ w ∈ lw_tbl, w.before #[Value.ref b] s = true) ∧ va_X b L xs s s.heap ∧ b < s.heap.size ∧ meth.locks = false ∧ (Jvm.Cond.and given_1 narrow_1).before #[Value.ref b] s = true
theorem kk_keep {D : va_G} {cl : List vw_C} {w w2 : va_W} {H H1 : Heap} (hP : va_P D cl w2 H) (hk : ∀ q : Nat, q < H.size → ¬ kk_A w q → H1[q]? = H[q]?) (hd : ∀ (k : Nat) (q : Nat × va_E), w2[k]? = some q → ¬ kk_A w q.1) : va_P D cl w2 H1 := hP.kept (fun k q h => hk q.1 (hP k q h).lt (hd k q h))
theorem lw_end {L j : Nat} (hL : L ≤ 1024) (hj : j ≤ 513) : (nI L - 2 < nI (2 * j)) ↔ L < 2 * j + 2 := by
  have h1 : (nI L - nI 2).toInt = (L : Int) - 2 := pk_sub_toInt (by omega) (by omega)
  have h2 : (nI (2 * j)).toInt = ((2 * j : Nat) : Int) := nI_toInt (by omega)
  show nI L - nI 2 < nI (2 * j) ↔ _
  rw [Int32.lt_iff_toInt_lt, h1, h2]
  omega
theorem lw_sw8 (x : Int32) : x &&& 7 = 0 ∨ x &&& 7 = 1 ∨ x &&& 7 = 2 ∨ x &&& 7 = 3 ∨ x &&& 7 = 4 ∨ x &&& 7 = 5 ∨ x &&& 7 = 6 ∨ x &&& 7 = 7 := by
  obtain ⟨j, h1, h2⟩ := pk_andE x (m := 7) 3 (by decide)
  rw [h2]
  have h3 : j = 0 ∨ j = 1 ∨ j = 2 ∨ j = 3 ∨ j = 4 ∨ j = 5 ∨ j = 6 ∨ j = 7 := by omega
  rcases h3 with rfl | rfl | rfl | rfl | rfl | rfl | rfl | rfl <;> decide
theorem kk_dis {w1 w2 : va_W} {A : Nat → Prop} (h : va_D A (w1 ++ w2)) : (∀ (k : Nat) (q : Nat × va_E), w2[k]? = some q → ¬ kk_A w1 q.1) ∧ (∀ (k : Nat) (q : Nat × va_E), w1[k]? = some q → ¬ kk_A w2 q.1) := by
  have key : ∀ (a b : Nat) (p q : Nat × va_E), w1[a]? = some p → w2[b]? = some q → p.1 ≠ q.1 := by
    intro a b p q ha hb e
    have hl : a < w1.length := (List.getElem?_eq_some_iff.mp ha).1
    have h1 : (w1 ++ w2)[a]? = some p := by rw [List.getElem?_append_left hl]; exact ha
    have h2 : (w1 ++ w2)[w1.length + b]? = some q := by rw [List.getElem?_append_right (by omega), Nat.add_sub_cancel_left]; exact hb
    have := h.1 a (w1.length + b) p q h1 h2 e
    omega
  exact ⟨fun k q hq z => by obtain ⟨a, x, ha⟩ := z; exact key a k _ _ ha hq rfl, fun k q hq z => by obtain ⟨a, x, ha⟩ := z; exact key k a _ _ hq ha rfl⟩
theorem lg_cmp_self (x : Int64) : lg_cmp x x = 0 := by
  unfold lg_cmp
  rw [if_neg (show ¬ x > x from Int64.lt_irrefl), if_pos rfl]
theorem dm_ok {j : Nat} {u : DSt} {v : MSt} (h : dmI j u v) : mk_ok v.2.1 := by
  obtain ⟨n, k, hB, -, -, hs⟩ := h
  exact ⟨n - k, hB.2.2.2.2.1, hs⟩
theorem dm_okE {j : Nat} {u : DSt} {v : MSt} (h : dmI j u v) : ¬ v.2.2.2.1 < 0 → vp_in v.2.1 3000 := by
  obtain ⟨n, k, hB, hK, -, -⟩ := h
  intro q
  rcases hK with ⟨k1, k2, k3⟩ | ⟨o, k1, k2, k3, k4, k5, k6, k7⟩
  · exact absurd (by rw [k2]; decide) q
  · rw [hB.2.2.2.2.1]
    exact vp_in_nI (by omega) (by omega)
theorem dm_ok2 {j : Nat} {u : DSt} {v : MSt} (h : dmI j u v) : mk_ok2 v.2.1 v.2.2.1 := by
  obtain ⟨n, k, hB, hK, -, hs⟩ := h
  obtain ⟨e, e1, e2, e3, e4, -⟩ := dm_eoe hB hK
  exact ⟨n - k, n - e, hB.2.2.2.2.1, e4, by omega, hs⟩
theorem dm_rng {j : Nat} {u : DSt} {v : MSt} (h : dmI j u v) (hj : j ≤ 512) : dk_rng u.2.2.1 u.2.1 := by
  obtain ⟨n, k, hB, -, hn, -⟩ := h
  have h3 := hB.2.2.1
  exact ⟨k, n - k, hB.2.1, by rw [hB.1]; congr 1; omega, by omega⟩
def lw_G (p : Program) (l : Launch) (e : Env) (s : State) (m : MethodId) (below : List Frame) (meth : Method) (c : Code) (D : va_G) (cA cR cY : ClassId) (q0 q1 m0 m1 m2 b : Nat) (pc : Nat) (i : Int32) (u : DSt) (v : MSt) : Prop := ∀ (H : Heap) (locs : List Loc) (ls : Array Slot), va_P D vwCl (dkW cA q0 q1 u) H → va_P D vwCl (mkW cR cY m0 m1 m2 v) H → va_S (fun q : Nat => s.heap.size ≤ q) s.heap H locs → lv_has ls 4 [(0, .ref b), (1, .ref q0), (2, .ref m0), (3, .int i)] → W p l e room_1 s m #[Value.ref b] below meth c H locs 5 7115 (lw_Z below #[Value.ref b] s) (F0 m pc ls [])
set_option maxHeartbeats 4000000 in
set_option maxRecDepth 100000 in
theorem law_begin {p : Program} {l : Launch} {e : Env} {s : State} {m : MethodId} {below : List Frame} {meth : Method} {c : Code} {D : va_G} {cA cR cY : ClassId} {q0 q1 m0 m1 m2 b L : Nat} {xs : Nat → Int32} (hL : L ≤ 1024) (C0 : lw_At p s m meth c b L xs) (hK : va_K D vwCl [(cA, .byte), (cR, .int), (cY, .int)] s) {j : Nat} {i : Int32} (hi : i = nI (2 * j)) (hjL : 2 * j + 2 ≤ L) {u : DSt} {v : MSt} (hI : dmI j u v) (hDa : ∀ (u : DSt) (v : MSt), va_D (fun q : Nat => s.heap.size ≤ q) (dkW cA q0 q1 u ++ mkW cR cY m0 m1 m2 v)) (hnext : ∀ (u : DSt) (v : MSt), dmI (j + 1) u v → lw_G p l e s m below meth c D cA cR cY q0 q1 m0 m1 m2 b 235 i u v) : lw_G p l e s m below meth c D cA cR cY q0 q1 m0 m1 m2 b 80 i u v := by
  obtain ⟨hx, hb, hr, hml, hown, hts0, hX, hbl, hlocks, hgv⟩ := id C0
  have hts : ∀ w ∈ wsL_law, w.before #[Value.ref b] s = true := fun w h => hts0 w (wsL_law_in w h)
  have hown : s.vm.findClass RL = some m.cls := hown
  have hbA : ¬ (fun q : Nat => s.heap.size ≤ q) b := Nat.not_le.mpr hbl
  obtain ⟨rg, tt, tk, en, ki, os⟩ := u
  obtain ⟨ro, sz, op, kd, ta, la, li, bt, mn⟩ := v
  have hDd : ∀ u : DSt, va_D (fun q : Nat => s.heap.size ≤ q) (dkW cA q0 q1 u) := fun u => (hDa u (ro, sz, op, kd, ta, la, li, bt, mn)).sub [0, 1] (by decide) rfl
  have hDm : ∀ v : MSt, va_D (fun q : Nat => s.heap.size ≤ q) (mkW cR cY m0 m1 m2 v) := fun v => (hDa (rg, tt, tk, en, ki, os) v).sub [2, 3, 4] (by decide) rfl
  have hKd : va_K D vwCl [(cA, .byte)] s := hK.sub [0] rfl
  have hKm : va_K D vwCl [(cR, .int), (cY, .int)] s := hK.sub [1, 2] rfl
  intro H locs ls hPd hPm hS hl
  refine lv_aload_n hx hb dL_law_80 rfl (lv_at hl 1 rfl) ?_
  refine lv_aload_n hx hb dL_law_81 rfl (lv_at hl 0 rfl) ?_
  refine lv_iload_n hx hb dL_law_82 rfl (lv_at hl 3 rfl) ?_
  refine lv_iconst (v := 1) hx hb dL_law_83 (by decide) ?_
  refine lv_iadd hx hb dL_law_84 ?_
  refine lv_topi (fun t1 et1 => ?_)
  have hin1 : vp_in t1 L := by rw [et1, hi, nI_1]; exact vp_in_nI (by omega) (by omega)
  refine va_sld hx hb hX hbl hbA hS hin1 dL_law_85 ?_
  refine lv_topi (fun x ex => ?_)
  refine kk_mutI (cs := dkW cA q0 q1) (ci := 0) (q0 := 0) (rest := []) ⟨hx, hb, hml, hown, hts⟩ (cD_begin l D cA q0 q1 rg tt tk en ki os x) (cwV 1 hts gL_law_X0_begin rfl rfl rfl (by decide +kernel) ⟨Nat.le_of_ble_eq_true rfl, Nat.le_of_ble_eq_true rfl⟩) hKd hPd (hDd _) hS rfl rfl rfl hl.1 rfl (Nat.le_of_ble_eq_true rfl) dL_law_86 ⟨Nat.le_refl 5, Nat.le_refl 7115⟩ (fun r1 u1 H1 locs1 hu1 hPu1 hS hz1 hk1 => ?_)
  have hPm := kk_keep hPm hk1 (kk_dis (hDa (rg, tt, tk, en, ki, os) (ro, sz, op, kd, ta, la, li, bt, mn))).1
  have hPd := hPu1
  refine lv_aload_n hx hb dL_law_89 rfl (lv_at hl 2 rfl) ?_
  refine lv_aload_n hx hb dL_law_90 rfl (lv_at hl 0 rfl) ?_
  refine lv_iload_n hx hb dL_law_91 rfl (lv_at hl 3 rfl) ?_
  refine lv_iconst (v := 1) hx hb dL_law_92 (by decide) ?_
  refine lv_iadd hx hb dL_law_93 ?_
  refine lv_topi (fun t2 et2 => ?_)
  have hin2 : vp_in t2 L := by rw [et2, hi, nI_1]; exact vp_in_nI (by omega) (by omega)
  refine va_sld hx hb hX hbl hbA hS hin2 dL_law_94 ?_
  rw [show xs t2.toNatClampNeg = x from by rw [ex, et2, et1]]
  refine kk_mutI (cs := mkW cR cY m0 m1 m2) (ci := 1) (q0 := 0) (rest := [.int r1]) ⟨hx, hb, hml, hown, hts⟩ (cM_begin l D cR cY m0 m1 m2 ro sz op kd ta la li bt mn x (dm_ok hI)) (cwV 1 hts gL_law_X1_begin rfl rfl rfl (by decide +kernel) ⟨Nat.le_of_ble_eq_true rfl, Nat.le_of_ble_eq_true rfl⟩) hKm hPm (hDm _) hS rfl rfl rfl hl.1 rfl (Nat.le_of_ble_eq_true rfl) dL_law_95 ⟨Nat.le_refl 5, Nat.le_refl 7115⟩ (fun r2 v1 H2 locs2 hv1 hPv1 hS hz2 hk2 => ?_)
  have hPd := kk_keep hPd hk2 (kk_dis (hDa u1 (ro, sz, op, kd, ta, la, li, bt, mn))).2
  have hsim := dm_begin hI (by omega) x
  refine lv_icmp_eq (tgt := 235) hx hb dL_law_98 (by decide) (fun c1 => ?_) (fun c1 => ?_)
  · exact hnext u1 v1 (by rw [hu1.2, hv1.2]; exact hsim.2) H2 locs2 ls hPd hPv1 hS hl
  · exact absurd (by rw [hu1.1, hv1.1]; exact hsim.1) c1
set_option maxHeartbeats 4000000 in
set_option maxRecDepth 100000 in
theorem law_add {p : Program} {l : Launch} {e : Env} {s : State} {m : MethodId} {below : List Frame} {meth : Method} {c : Code} {D : va_G} {cA cR cY : ClassId} {q0 q1 m0 m1 m2 b L : Nat} {xs : Nat → Int32} (hL : L ≤ 1024) (C0 : lw_At p s m meth c b L xs) (hK : va_K D vwCl [(cA, .byte), (cR, .int), (cY, .int)] s) {j : Nat} {i : Int32} (hi : i = nI (2 * j)) (hjL : 2 * j + 2 ≤ L) {u : DSt} {v : MSt} (hI : dmI j u v) (hDa : ∀ (u : DSt) (v : MSt), va_D (fun q : Nat => s.heap.size ≤ q) (dkW cA q0 q1 u ++ mkW cR cY m0 m1 m2 v)) (hnext : ∀ (u : DSt) (v : MSt), dmI (j + 1) u v → lw_G p l e s m below meth c D cA cR cY q0 q1 m0 m1 m2 b 235 i u v) : lw_G p l e s m below meth c D cA cR cY q0 q1 m0 m1 m2 b 103 i u v := by
  obtain ⟨hx, hb, hr, hml, hown, hts0, hX, hbl, hlocks, hgv⟩ := id C0
  have hts : ∀ w ∈ wsL_law, w.before #[Value.ref b] s = true := fun w h => hts0 w (wsL_law_in w h)
  have hown : s.vm.findClass RL = some m.cls := hown
  have hbA : ¬ (fun q : Nat => s.heap.size ≤ q) b := Nat.not_le.mpr hbl
  obtain ⟨rg, tt, tk, en, ki, os⟩ := u
  obtain ⟨ro, sz, op, kd, ta, la, li, bt, mn⟩ := v
  have hDd : ∀ u : DSt, va_D (fun q : Nat => s.heap.size ≤ q) (dkW cA q0 q1 u) := fun u => (hDa u (ro, sz, op, kd, ta, la, li, bt, mn)).sub [0, 1] (by decide) rfl
  have hDm : ∀ v : MSt, va_D (fun q : Nat => s.heap.size ≤ q) (mkW cR cY m0 m1 m2 v) := fun v => (hDa (rg, tt, tk, en, ki, os) v).sub [2, 3, 4] (by decide) rfl
  have hKd : va_K D vwCl [(cA, .byte)] s := hK.sub [0] rfl
  have hKm : va_K D vwCl [(cR, .int), (cY, .int)] s := hK.sub [1, 2] rfl
  intro H locs ls hPd hPm hS hl
  refine lv_aload_n hx hb dL_law_103 rfl (lv_at hl 1 rfl) ?_
  refine lv_aload_n hx hb dL_law_104 rfl (lv_at hl 0 rfl) ?_
  refine lv_iload_n hx hb dL_law_105 rfl (lv_at hl 3 rfl) ?_
  refine lv_iconst (v := 1) hx hb dL_law_106 (by decide) ?_
  refine lv_iadd hx hb dL_law_107 ?_
  refine lv_topi (fun t1 et1 => ?_)
  have hin1 : vp_in t1 L := by rw [et1, hi, nI_1]; exact vp_in_nI (by omega) (by omega)
  refine va_sld hx hb hX hbl hbA hS hin1 dL_law_108 ?_
  refine lv_topi (fun x ex => ?_)
  refine kk_mutI (cs := dkW cA q0 q1) (ci := 0) (q0 := 0) (rest := []) ⟨hx, hb, hml, hown, hts⟩ (cD_add l D cA q0 q1 rg tt tk en ki os x) (cwV 1 hts gL_law_X0_add rfl rfl rfl (by decide +kernel) ⟨Nat.le_of_ble_eq_true rfl, Nat.le_of_ble_eq_true rfl⟩) hKd hPd (hDd _) hS rfl rfl rfl hl.1 rfl (Nat.le_of_ble_eq_true rfl) dL_law_109 ⟨Nat.le_refl 5, Nat.le_refl 7115⟩ (fun r1 u1 H1 locs1 hu1 hPu1 hS hz1 hk1 => ?_)
  have hPm := kk_keep hPm hk1 (kk_dis (hDa (rg, tt, tk, en, ki, os) (ro, sz, op, kd, ta, la, li, bt, mn))).1
  have hPd := hPu1
  refine lv_aload_n hx hb dL_law_112 rfl (lv_at hl 2 rfl) ?_
  refine lv_aload_n hx hb dL_law_113 rfl (lv_at hl 0 rfl) ?_
  refine lv_iload_n hx hb dL_law_114 rfl (lv_at hl 3 rfl) ?_
  refine lv_iconst (v := 1) hx hb dL_law_115 (by decide) ?_
  refine lv_iadd hx hb dL_law_116 ?_
  refine lv_topi (fun t2 et2 => ?_)
  have hin2 : vp_in t2 L := by rw [et2, hi, nI_1]; exact vp_in_nI (by omega) (by omega)
  refine va_sld hx hb hX hbl hbA hS hin2 dL_law_117 ?_
  rw [show xs t2.toNatClampNeg = x from by rw [ex, et2, et1]]
  refine kk_mutI (cs := mkW cR cY m0 m1 m2) (ci := 1) (q0 := 0) (rest := [.int r1]) ⟨hx, hb, hml, hown, hts⟩ (cM_add l D cR cY m0 m1 m2 ro sz op kd ta la li bt mn x (dm_ok hI)) (cwV 1 hts gL_law_X1_add rfl rfl rfl (by decide +kernel) ⟨Nat.le_of_ble_eq_true rfl, Nat.le_of_ble_eq_true rfl⟩) hKm hPm (hDm _) hS rfl rfl rfl hl.1 rfl (Nat.le_of_ble_eq_true rfl) dL_law_118 ⟨Nat.le_refl 5, Nat.le_refl 7115⟩ (fun r2 v1 H2 locs2 hv1 hPv1 hS hz2 hk2 => ?_)
  have hPd := kk_keep hPd hk2 (kk_dis (hDa u1 (ro, sz, op, kd, ta, la, li, bt, mn))).2
  have hsim := dm_add hI (by omega) x
  refine lv_icmp_eq (tgt := 235) hx hb dL_law_121 (by decide) (fun c1 => ?_) (fun c1 => ?_)
  · exact hnext u1 v1 (by rw [hu1.2, hv1.2]; exact hsim.2) H2 locs2 ls hPd hPv1 hS hl
  · exact absurd (by rw [hu1.1, hv1.1]; exact hsim.1) c1
set_option maxHeartbeats 4000000 in
set_option maxRecDepth 100000 in
theorem law_text {p : Program} {l : Launch} {e : Env} {s : State} {m : MethodId} {below : List Frame} {meth : Method} {c : Code} {D : va_G} {cA cR cY : ClassId} {q0 q1 m0 m1 m2 b L : Nat} {xs : Nat → Int32} (hL : L ≤ 1024) (C0 : lw_At p s m meth c b L xs) (hK : va_K D vwCl [(cA, .byte), (cR, .int), (cY, .int)] s) {j : Nat} {i : Int32} (hi : i = nI (2 * j)) (hjL : 2 * j + 2 ≤ L) {u : DSt} {v : MSt} (hI : dmI j u v) (hDa : ∀ (u : DSt) (v : MSt), va_D (fun q : Nat => s.heap.size ≤ q) (dkW cA q0 q1 u ++ mkW cR cY m0 m1 m2 v)) (hnext : ∀ (u : DSt) (v : MSt), dmI (j + 1) u v → lw_G p l e s m below meth c D cA cR cY q0 q1 m0 m1 m2 b 235 i u v) : lw_G p l e s m below meth c D cA cR cY q0 q1 m0 m1 m2 b 126 i u v := by
  obtain ⟨hx, hb, hr, hml, hown, hts0, hX, hbl, hlocks, hgv⟩ := id C0
  have hts : ∀ w ∈ wsL_law, w.before #[Value.ref b] s = true := fun w h => hts0 w (wsL_law_in w h)
  have hown : s.vm.findClass RL = some m.cls := hown
  have hbA : ¬ (fun q : Nat => s.heap.size ≤ q) b := Nat.not_le.mpr hbl
  obtain ⟨rg, tt, tk, en, ki, os⟩ := u
  obtain ⟨ro, sz, op, kd, ta, la, li, bt, mn⟩ := v
  have hDd : ∀ u : DSt, va_D (fun q : Nat => s.heap.size ≤ q) (dkW cA q0 q1 u) := fun u => (hDa u (ro, sz, op, kd, ta, la, li, bt, mn)).sub [0, 1] (by decide) rfl
  have hDm : ∀ v : MSt, va_D (fun q : Nat => s.heap.size ≤ q) (mkW cR cY m0 m1 m2 v) := fun v => (hDa (rg, tt, tk, en, ki, os) v).sub [2, 3, 4] (by decide) rfl
  have hKd : va_K D vwCl [(cA, .byte)] s := hK.sub [0] rfl
  have hKm : va_K D vwCl [(cR, .int), (cY, .int)] s := hK.sub [1, 2] rfl
  intro H locs ls hPd hPm hS hl
  refine lv_aload_n hx hb dL_law_126 rfl (lv_at hl 1 rfl) ?_
  refine lv_aload_n hx hb dL_law_127 rfl (lv_at hl 0 rfl) ?_
  refine lv_iload_n hx hb dL_law_128 rfl (lv_at hl 3 rfl) ?_
  refine lv_iconst (v := 1) hx hb dL_law_129 (by decide) ?_
  refine lv_iadd hx hb dL_law_130 ?_
  refine lv_topi (fun t1 et1 => ?_)
  have hin1 : vp_in t1 L := by rw [et1, hi, nI_1]; exact vp_in_nI (by omega) (by omega)
  refine va_sld hx hb hX hbl hbA hS hin1 dL_law_131 ?_
  refine lv_topi (fun x ex => ?_)
  refine kk_mutI (cs := dkW cA q0 q1) (ci := 0) (q0 := 0) (rest := []) ⟨hx, hb, hml, hown, hts⟩ (cD_text l D cA q0 q1 rg tt tk en ki os x) (cwV 1 hts gL_law_X0_text rfl rfl rfl (by decide +kernel) ⟨Nat.le_of_ble_eq_true rfl, Nat.le_of_ble_eq_true rfl⟩) hKd hPd (hDd _) hS rfl rfl rfl hl.1 rfl (Nat.le_of_ble_eq_true rfl) dL_law_132 ⟨Nat.le_refl 5, Nat.le_refl 7115⟩ (fun r1 u1 H1 locs1 hu1 hPu1 hS hz1 hk1 => ?_)
  have hPm := kk_keep hPm hk1 (kk_dis (hDa (rg, tt, tk, en, ki, os) (ro, sz, op, kd, ta, la, li, bt, mn))).1
  have hPd := hPu1
  refine lv_aload_n hx hb dL_law_135 rfl (lv_at hl 2 rfl) ?_
  refine lv_aload_n hx hb dL_law_136 rfl (lv_at hl 0 rfl) ?_
  refine lv_iload_n hx hb dL_law_137 rfl (lv_at hl 3 rfl) ?_
  refine lv_iconst (v := 1) hx hb dL_law_138 (by decide) ?_
  refine lv_iadd hx hb dL_law_139 ?_
  refine lv_topi (fun t2 et2 => ?_)
  have hin2 : vp_in t2 L := by rw [et2, hi, nI_1]; exact vp_in_nI (by omega) (by omega)
  refine va_sld hx hb hX hbl hbA hS hin2 dL_law_140 ?_
  rw [show xs t2.toNatClampNeg = x from by rw [ex, et2, et1]]
  refine kk_mutI (cs := mkW cR cY m0 m1 m2) (ci := 1) (q0 := 0) (rest := [.int r1]) ⟨hx, hb, hml, hown, hts⟩ (cM_text l D cR cY m0 m1 m2 ro sz op kd ta la li bt mn x (dm_ok hI)) (cwV 1 hts gL_law_X1_text rfl rfl rfl (by decide +kernel) ⟨Nat.le_of_ble_eq_true rfl, Nat.le_of_ble_eq_true rfl⟩) hKm hPm (hDm _) hS rfl rfl rfl hl.1 rfl (Nat.le_of_ble_eq_true rfl) dL_law_141 ⟨Nat.le_refl 5, Nat.le_refl 7115⟩ (fun r2 v1 H2 locs2 hv1 hPv1 hS hz2 hk2 => ?_)
  have hPd := kk_keep hPd hk2 (kk_dis (hDa u1 (ro, sz, op, kd, ta, la, li, bt, mn))).2
  have hsim := dm_text hI (by omega) x
  refine lv_icmp_eq (tgt := 235) hx hb dL_law_144 (by decide) (fun c1 => ?_) (fun c1 => ?_)
  · exact hnext u1 v1 (by rw [hu1.2, hv1.2]; exact hsim.2) H2 locs2 ls hPd hPv1 hS hl
  · exact absurd (by rw [hu1.1, hv1.1]; exact hsim.1) c1
set_option maxHeartbeats 4000000 in
set_option maxRecDepth 100000 in
theorem law_end {p : Program} {l : Launch} {e : Env} {s : State} {m : MethodId} {below : List Frame} {meth : Method} {c : Code} {D : va_G} {cA cR cY : ClassId} {q0 q1 m0 m1 m2 b L : Nat} {xs : Nat → Int32} (hL : L ≤ 1024) (C0 : lw_At p s m meth c b L xs) (hK : va_K D vwCl [(cA, .byte), (cR, .int), (cY, .int)] s) {j : Nat} {i : Int32} (hi : i = nI (2 * j)) (hjL : 2 * j + 2 ≤ L) {u : DSt} {v : MSt} (hI : dmI j u v) (hDa : ∀ (u : DSt) (v : MSt), va_D (fun q : Nat => s.heap.size ≤ q) (dkW cA q0 q1 u ++ mkW cR cY m0 m1 m2 v)) (hnext : ∀ (u : DSt) (v : MSt), dmI (j + 1) u v → lw_G p l e s m below meth c D cA cR cY q0 q1 m0 m1 m2 b 235 i u v) : lw_G p l e s m below meth c D cA cR cY q0 q1 m0 m1 m2 b 149 i u v := by
  obtain ⟨hx, hb, hr, hml, hown, hts0, hX, hbl, hlocks, hgv⟩ := id C0
  have hts : ∀ w ∈ wsL_law, w.before #[Value.ref b] s = true := fun w h => hts0 w (wsL_law_in w h)
  have hown : s.vm.findClass RL = some m.cls := hown
  have hbA : ¬ (fun q : Nat => s.heap.size ≤ q) b := Nat.not_le.mpr hbl
  obtain ⟨rg, tt, tk, en, ki, os⟩ := u
  obtain ⟨ro, sz, op, kd, ta, la, li, bt, mn⟩ := v
  have hDd : ∀ u : DSt, va_D (fun q : Nat => s.heap.size ≤ q) (dkW cA q0 q1 u) := fun u => (hDa u (ro, sz, op, kd, ta, la, li, bt, mn)).sub [0, 1] (by decide) rfl
  have hDm : ∀ v : MSt, va_D (fun q : Nat => s.heap.size ≤ q) (mkW cR cY m0 m1 m2 v) := fun v => (hDa (rg, tt, tk, en, ki, os) v).sub [2, 3, 4] (by decide) rfl
  have hKd : va_K D vwCl [(cA, .byte)] s := hK.sub [0] rfl
  have hKm : va_K D vwCl [(cR, .int), (cY, .int)] s := hK.sub [1, 2] rfl
  intro H locs ls hPd hPm hS hl
  refine lv_aload_n hx hb dL_law_149 rfl (lv_at hl 1 rfl) ?_
  refine kk_mutI (cs := dkW cA q0 q1) (ci := 0) (q0 := 0) (rest := []) ⟨hx, hb, hml, hown, hts⟩ (cD_end l D cA q0 q1 rg tt tk en ki os) (cwV 0 hts gL_law_X0_end rfl rfl rfl (by decide +kernel) ⟨Nat.le_of_ble_eq_true rfl, Nat.le_of_ble_eq_true rfl⟩) hKd hPd (hDd _) hS rfl rfl rfl hl.1 rfl (Nat.le_of_ble_eq_true rfl) dL_law_150 ⟨Nat.le_refl 5, Nat.le_refl 7115⟩ (fun r1 u1 H1 locs1 hu1 hPu1 hS hz1 hk1 => ?_)
  have hPm := kk_keep hPm hk1 (kk_dis (hDa (rg, tt, tk, en, ki, os) (ro, sz, op, kd, ta, la, li, bt, mn))).1
  have hPd := hPu1
  refine lv_aload_n hx hb dL_law_153 rfl (lv_at hl 2 rfl) ?_
  refine kk_mutI (cs := mkW cR cY m0 m1 m2) (ci := 1) (q0 := 0) (rest := [.int r1]) ⟨hx, hb, hml, hown, hts⟩ (cM_end l D cR cY m0 m1 m2 ro sz op kd ta la li bt mn (dm_okE hI)) (cwV 0 hts gL_law_X1_end rfl rfl rfl (by decide +kernel) ⟨Nat.le_of_ble_eq_true rfl, Nat.le_of_ble_eq_true rfl⟩) hKm hPm (hDm _) hS rfl rfl rfl hl.1 rfl (Nat.le_of_ble_eq_true rfl) dL_law_154 ⟨Nat.le_refl 5, Nat.le_refl 7115⟩ (fun r2 v1 H2 locs2 hv1 hPv1 hS hz2 hk2 => ?_)
  have hPd := kk_keep hPd hk2 (kk_dis (hDa u1 (ro, sz, op, kd, ta, la, li, bt, mn))).2
  have hsim := dm_end hI (by omega)
  refine lv_icmp_eq (tgt := 235) hx hb dL_law_157 (by decide) (fun c1 => ?_) (fun c1 => ?_)
  · exact hnext u1 v1 (by rw [hu1.2, hv1.2]; exact hsim.2) H2 locs2 ls hPd hPv1 hS hl
  · exact absurd (by rw [hu1.1, hv1.1]; exact hsim.1) c1
set_option maxHeartbeats 4000000 in
set_option maxRecDepth 100000 in
theorem law_back {p : Program} {l : Launch} {e : Env} {s : State} {m : MethodId} {below : List Frame} {meth : Method} {c : Code} {D : va_G} {cA cR cY : ClassId} {q0 q1 m0 m1 m2 b L : Nat} {xs : Nat → Int32} (hL : L ≤ 1024) (C0 : lw_At p s m meth c b L xs) (hK : va_K D vwCl [(cA, .byte), (cR, .int), (cY, .int)] s) {j : Nat} {i : Int32} (hi : i = nI (2 * j)) (hjL : 2 * j + 2 ≤ L) {u : DSt} {v : MSt} (hI : dmI j u v) (hDa : ∀ (u : DSt) (v : MSt), va_D (fun q : Nat => s.heap.size ≤ q) (dkW cA q0 q1 u ++ mkW cR cY m0 m1 m2 v)) (hnext : ∀ (u : DSt) (v : MSt), dmI (j + 1) u v → lw_G p l e s m below meth c D cA cR cY q0 q1 m0 m1 m2 b 235 i u v) : lw_G p l e s m below meth c D cA cR cY q0 q1 m0 m1 m2 b 162 i u v := by
  obtain ⟨hx, hb, hr, hml, hown, hts0, hX, hbl, hlocks, hgv⟩ := id C0
  have hts : ∀ w ∈ wsL_law, w.before #[Value.ref b] s = true := fun w h => hts0 w (wsL_law_in w h)
  have hown : s.vm.findClass RL = some m.cls := hown
  have hbA : ¬ (fun q : Nat => s.heap.size ≤ q) b := Nat.not_le.mpr hbl
  obtain ⟨rg, tt, tk, en, ki, os⟩ := u
  obtain ⟨ro, sz, op, kd, ta, la, li, bt, mn⟩ := v
  have hDd : ∀ u : DSt, va_D (fun q : Nat => s.heap.size ≤ q) (dkW cA q0 q1 u) := fun u => (hDa u (ro, sz, op, kd, ta, la, li, bt, mn)).sub [0, 1] (by decide) rfl
  have hDm : ∀ v : MSt, va_D (fun q : Nat => s.heap.size ≤ q) (mkW cR cY m0 m1 m2 v) := fun v => (hDa (rg, tt, tk, en, ki, os) v).sub [2, 3, 4] (by decide) rfl
  have hKd : va_K D vwCl [(cA, .byte)] s := hK.sub [0] rfl
  have hKm : va_K D vwCl [(cR, .int), (cY, .int)] s := hK.sub [1, 2] rfl
  intro H locs ls hPd hPm hS hl
  refine lv_aload_n hx hb dL_law_162 rfl (lv_at hl 1 rfl) ?_
  refine lv_aload_n hx hb dL_law_163 rfl (lv_at hl 0 rfl) ?_
  refine lv_iload_n hx hb dL_law_164 rfl (lv_at hl 3 rfl) ?_
  refine lv_iconst (v := 1) hx hb dL_law_165 (by decide) ?_
  refine lv_iadd hx hb dL_law_166 ?_
  refine lv_topi (fun t1 et1 => ?_)
  have hin1 : vp_in t1 L := by rw [et1, hi, nI_1]; exact vp_in_nI (by omega) (by omega)
  refine va_sld hx hb hX hbl hbA hS hin1 dL_law_167 ?_
  refine lv_topi (fun x ex => ?_)
  refine kk_mutI (cs := dkW cA q0 q1) (ci := 0) (q0 := 0) (rest := []) ⟨hx, hb, hml, hown, hts⟩ (cD_back l D cA q0 q1 rg tt tk en ki os x (dm_rng hI (by omega))) (cwV 1 hts gL_law_X0_back rfl rfl rfl (by decide +kernel) ⟨Nat.le_of_ble_eq_true rfl, Nat.le_of_ble_eq_true rfl⟩) hKd hPd (hDd _) hS rfl rfl rfl hl.1 rfl (Nat.le_of_ble_eq_true rfl) dL_law_168 ⟨Nat.le_refl 5, Nat.le_refl 7115⟩ (fun r1 u1 H1 locs1 hu1 hPu1 hS hz1 hk1 => ?_)
  have hPm := kk_keep hPm hk1 (kk_dis (hDa (rg, tt, tk, en, ki, os) (ro, sz, op, kd, ta, la, li, bt, mn))).1
  have hPd := hPu1
  refine lv_aload_n hx hb dL_law_171 rfl (lv_at hl 2 rfl) ?_
  refine lv_aload_n hx hb dL_law_172 rfl (lv_at hl 0 rfl) ?_
  refine lv_iload_n hx hb dL_law_173 rfl (lv_at hl 3 rfl) ?_
  refine lv_iconst (v := 1) hx hb dL_law_174 (by decide) ?_
  refine lv_iadd hx hb dL_law_175 ?_
  refine lv_topi (fun t2 et2 => ?_)
  have hin2 : vp_in t2 L := by rw [et2, hi, nI_1]; exact vp_in_nI (by omega) (by omega)
  refine va_sld hx hb hX hbl hbA hS hin2 dL_law_176 ?_
  rw [show xs t2.toNatClampNeg = x from by rw [ex, et2, et1]]
  refine kk_mutI (cs := mkW cR cY m0 m1 m2) (ci := 1) (q0 := 0) (rest := [.int r1]) ⟨hx, hb, hml, hown, hts⟩ (cM_back l D cR cY m0 m1 m2 ro sz op kd ta la li bt mn x (dm_ok hI)) (cwV 1 hts gL_law_X1_back rfl rfl rfl (by decide +kernel) ⟨Nat.le_of_ble_eq_true rfl, Nat.le_of_ble_eq_true rfl⟩) hKm hPm (hDm _) hS rfl rfl rfl hl.1 rfl (Nat.le_of_ble_eq_true rfl) dL_law_177 ⟨Nat.le_refl 5, Nat.le_refl 7115⟩ (fun r2 v1 H2 locs2 hv1 hPv1 hS hz2 hk2 => ?_)
  have hPd := kk_keep hPd hk2 (kk_dis (hDa u1 (ro, sz, op, kd, ta, la, li, bt, mn))).2
  have hsim := dm_back hI (by omega) x
  refine lv_icmp_eq (tgt := 235) hx hb dL_law_180 (by decide) (fun c1 => ?_) (fun c1 => ?_)
  · exact hnext u1 v1 (by rw [hu1.2, hv1.2]; exact hsim.2) H2 locs2 ls hPd hPv1 hS hl
  · exact absurd (by rw [hu1.1, hv1.1]; exact hsim.1) c1
set_option maxHeartbeats 4000000 in
set_option maxRecDepth 100000 in
theorem law_mark {p : Program} {l : Launch} {e : Env} {s : State} {m : MethodId} {below : List Frame} {meth : Method} {c : Code} {D : va_G} {cA cR cY : ClassId} {q0 q1 m0 m1 m2 b L : Nat} {xs : Nat → Int32} (hL : L ≤ 1024) (C0 : lw_At p s m meth c b L xs) (hK : va_K D vwCl [(cA, .byte), (cR, .int), (cY, .int)] s) {j : Nat} {i : Int32} (hi : i = nI (2 * j)) (hjL : 2 * j + 2 ≤ L) {u : DSt} {v : MSt} (hI : dmI j u v) (hDa : ∀ (u : DSt) (v : MSt), va_D (fun q : Nat => s.heap.size ≤ q) (dkW cA q0 q1 u ++ mkW cR cY m0 m1 m2 v)) (hnext : ∀ (u : DSt) (v : MSt), dmI (j + 1) u v → lw_G p l e s m below meth c D cA cR cY q0 q1 m0 m1 m2 b 235 i u v) : lw_G p l e s m below meth c D cA cR cY q0 q1 m0 m1 m2 b 185 i u v := by
  obtain ⟨hx, hb, hr, hml, hown, hts0, hX, hbl, hlocks, hgv⟩ := id C0
  have hts : ∀ w ∈ wsL_law, w.before #[Value.ref b] s = true := fun w h => hts0 w (wsL_law_in w h)
  have hown : s.vm.findClass RL = some m.cls := hown
  have hbA : ¬ (fun q : Nat => s.heap.size ≤ q) b := Nat.not_le.mpr hbl
  obtain ⟨rg, tt, tk, en, ki, os⟩ := u
  obtain ⟨ro, sz, op, kd, ta, la, li, bt, mn⟩ := v
  have hDd : ∀ u : DSt, va_D (fun q : Nat => s.heap.size ≤ q) (dkW cA q0 q1 u) := fun u => (hDa u (ro, sz, op, kd, ta, la, li, bt, mn)).sub [0, 1] (by decide) rfl
  have hDm : ∀ v : MSt, va_D (fun q : Nat => s.heap.size ≤ q) (mkW cR cY m0 m1 m2 v) := fun v => (hDa (rg, tt, tk, en, ki, os) v).sub [2, 3, 4] (by decide) rfl
  have hKd : va_K D vwCl [(cA, .byte)] s := hK.sub [0] rfl
  have hKm : va_K D vwCl [(cR, .int), (cY, .int)] s := hK.sub [1, 2] rfl
  intro H locs ls hPd hPm hS hl
  refine lv_aload_n hx hb dL_law_185 rfl (lv_at hl 1 rfl) ?_
  refine kk_readV (ci := 0) (q0 := 0) (rest := []) ⟨hx, hb, hml, hown, hts⟩ (cD_mark l D cA q0 q1 rg tt tk en ki os) (cwV 0 hts gL_law_X0_mark rfl rfl rfl (by decide +kernel) ⟨Nat.le_of_ble_eq_true rfl, Nat.le_of_ble_eq_true rfl⟩) hKd hPd (hDd _) rfl rfl rfl hl.1 rfl (Nat.le_of_ble_eq_true rfl) dL_law_186 ⟨Nat.le_refl 5, Nat.le_refl 7115⟩ ?_
  refine lv_aload_n hx hb dL_law_189 rfl (lv_at hl 2 rfl) ?_
  refine kk_readV (ci := 1) (q0 := 0) (rest := [.int (dk_mark (rg, tt, tk, en, ki, os))]) ⟨hx, hb, hml, hown, hts⟩ (cM_mark l D cR cY m0 m1 m2 ro sz op kd ta la li bt mn) (cwV 0 hts gL_law_X1_mark rfl rfl rfl (by decide +kernel) ⟨Nat.le_of_ble_eq_true rfl, Nat.le_of_ble_eq_true rfl⟩) hKm hPm (hDm _) rfl rfl rfl hl.1 rfl (Nat.le_of_ble_eq_true rfl) dL_law_190 ⟨Nat.le_refl 5, Nat.le_refl 7115⟩ ?_
  refine lv_icmp_eq (tgt := 235) hx hb dL_law_193 (by decide) (fun c1 => ?_) (fun c1 => ?_)
  · exact hnext (rg, tt, tk, en, ki, os) (ro, sz, op, kd, ta, la, li, bt, mn) (dm_more hI) H locs ls hPd hPm hS hl
  · exact absurd (dm_mark hI) c1
set_option maxHeartbeats 4000000 in
set_option maxRecDepth 100000 in
theorem law_take {p : Program} {l : Launch} {e : Env} {s : State} {m : MethodId} {below : List Frame} {meth : Method} {c : Code} {D : va_G} {cA cR cY : ClassId} {q0 q1 m0 m1 m2 b L : Nat} {xs : Nat → Int32} (hL : L ≤ 1024) (C0 : lw_At p s m meth c b L xs) (hK : va_K D vwCl [(cA, .byte), (cR, .int), (cY, .int)] s) {j : Nat} {i : Int32} (hi : i = nI (2 * j)) (hjL : 2 * j + 2 ≤ L) {u : DSt} {v : MSt} (hI : dmI j u v) (hDa : ∀ (u : DSt) (v : MSt), va_D (fun q : Nat => s.heap.size ≤ q) (dkW cA q0 q1 u ++ mkW cR cY m0 m1 m2 v)) (hnext : ∀ (u : DSt) (v : MSt), dmI (j + 1) u v → lw_G p l e s m below meth c D cA cR cY q0 q1 m0 m1 m2 b 235 i u v) : lw_G p l e s m below meth c D cA cR cY q0 q1 m0 m1 m2 b 198 i u v := by
  obtain ⟨hx, hb, hr, hml, hown, hts0, hX, hbl, hlocks, hgv⟩ := id C0
  have hts : ∀ w ∈ wsL_law, w.before #[Value.ref b] s = true := fun w h => hts0 w (wsL_law_in w h)
  have hown : s.vm.findClass RL = some m.cls := hown
  have hbA : ¬ (fun q : Nat => s.heap.size ≤ q) b := Nat.not_le.mpr hbl
  obtain ⟨rg, tt, tk, en, ki, os⟩ := u
  obtain ⟨ro, sz, op, kd, ta, la, li, bt, mn⟩ := v
  have hDd : ∀ u : DSt, va_D (fun q : Nat => s.heap.size ≤ q) (dkW cA q0 q1 u) := fun u => (hDa u (ro, sz, op, kd, ta, la, li, bt, mn)).sub [0, 1] (by decide) rfl
  have hDm : ∀ v : MSt, va_D (fun q : Nat => s.heap.size ≤ q) (mkW cR cY m0 m1 m2 v) := fun v => (hDa (rg, tt, tk, en, ki, os) v).sub [2, 3, 4] (by decide) rfl
  have hKd : va_K D vwCl [(cA, .byte)] s := hK.sub [0] rfl
  have hKm : va_K D vwCl [(cR, .int), (cY, .int)] s := hK.sub [1, 2] rfl
  intro H locs ls hPd hPm hS hl
  refine lv_aload_n hx hb dL_law_198 rfl (lv_at hl 1 rfl) ?_
  refine kk_mutL (cs := dkW cA q0 q1) (ci := 0) (q0 := 0) (rest := []) ⟨hx, hb, hml, hown, hts⟩ (cD_take l D cA q0 q1 rg tt tk en ki os) (cwV 0 hts gL_law_X0_take rfl rfl rfl (by decide +kernel) ⟨Nat.le_of_ble_eq_true rfl, Nat.le_of_ble_eq_true rfl⟩) hKd hPd (hDd _) hS rfl rfl rfl hl.1 rfl (Nat.le_of_ble_eq_true rfl) dL_law_199 ⟨Nat.le_refl 5, Nat.le_refl 7115⟩ (fun r1 u1 H1 locs1 hu1 hPu1 hS hz1 hk1 => ?_)
  have hPm := kk_keep hPm hk1 (kk_dis (hDa (rg, tt, tk, en, ki, os) (ro, sz, op, kd, ta, la, li, bt, mn))).1
  have hPd := hPu1
  refine lv_aload_n hx hb dL_law_202 rfl (lv_at hl 2 rfl) ?_
  refine kk_mutL (cs := mkW cR cY m0 m1 m2) (ci := 1) (q0 := 0) (rest := [.long r1]) ⟨hx, hb, hml, hown, hts⟩ (cM_take l D cR cY m0 m1 m2 ro sz op kd ta la li bt mn (dm_ok2 hI)) (cwV 0 hts gL_law_X1_take rfl rfl rfl (by decide +kernel) ⟨Nat.le_of_ble_eq_true rfl, Nat.le_of_ble_eq_true rfl⟩) hKm hPm (hDm _) hS rfl rfl rfl hl.1 rfl (Nat.le_of_ble_eq_true rfl) dL_law_203 ⟨Nat.le_refl 5, Nat.le_refl 7115⟩ (fun r2 v1 H2 locs2 hv1 hPv1 hS hz2 hk2 => ?_)
  have hPd := kk_keep hPd hk2 (kk_dis (hDa u1 (ro, sz, op, kd, ta, la, li, bt, mn))).2
  refine W.lcmp hx hb dL_law_206 ?_
  have hsim := dm_take hI (by omega)
  refine lv_if_eq (tgt := 235) hx hb dL_law_207 (by decide) (fun c1 => ?_) (fun c1 => ?_)
  · exact hnext u1 v1 (by rw [hu1.2, hv1.2]; exact hsim.2) H2 locs2 ls hPd hPv1 hS hl
  · exact absurd (by rw [hu1.1, hv1.1, hsim.1]; exact lg_cmp_self _) c1
set_option maxHeartbeats 4000000 in
set_option maxRecDepth 100000 in
theorem law_count {p : Program} {l : Launch} {e : Env} {s : State} {m : MethodId} {below : List Frame} {meth : Method} {c : Code} {D : va_G} {cA cR cY : ClassId} {q0 q1 m0 m1 m2 b L : Nat} {xs : Nat → Int32} (hL : L ≤ 1024) (C0 : lw_At p s m meth c b L xs) (hK : va_K D vwCl [(cA, .byte), (cR, .int), (cY, .int)] s) {j : Nat} {i : Int32} (hi : i = nI (2 * j)) (hjL : 2 * j + 2 ≤ L) {u : DSt} {v : MSt} (hI : dmI j u v) (hDa : ∀ (u : DSt) (v : MSt), va_D (fun q : Nat => s.heap.size ≤ q) (dkW cA q0 q1 u ++ mkW cR cY m0 m1 m2 v)) (hnext : ∀ (u : DSt) (v : MSt), dmI (j + 1) u v → lw_G p l e s m below meth c D cA cR cY q0 q1 m0 m1 m2 b 235 i u v) : lw_G p l e s m below meth c D cA cR cY q0 q1 m0 m1 m2 b 212 i u v := by
  obtain ⟨hx, hb, hr, hml, hown, hts0, hX, hbl, hlocks, hgv⟩ := id C0
  have hts : ∀ w ∈ wsL_law, w.before #[Value.ref b] s = true := fun w h => hts0 w (wsL_law_in w h)
  have hown : s.vm.findClass RL = some m.cls := hown
  have hbA : ¬ (fun q : Nat => s.heap.size ≤ q) b := Nat.not_le.mpr hbl
  obtain ⟨rg, tt, tk, en, ki, os⟩ := u
  obtain ⟨ro, sz, op, kd, ta, la, li, bt, mn⟩ := v
  have hDd : ∀ u : DSt, va_D (fun q : Nat => s.heap.size ≤ q) (dkW cA q0 q1 u) := fun u => (hDa u (ro, sz, op, kd, ta, la, li, bt, mn)).sub [0, 1] (by decide) rfl
  have hDm : ∀ v : MSt, va_D (fun q : Nat => s.heap.size ≤ q) (mkW cR cY m0 m1 m2 v) := fun v => (hDa (rg, tt, tk, en, ki, os) v).sub [2, 3, 4] (by decide) rfl
  have hKd : va_K D vwCl [(cA, .byte)] s := hK.sub [0] rfl
  have hKm : va_K D vwCl [(cR, .int), (cY, .int)] s := hK.sub [1, 2] rfl
  intro H locs ls hPd hPm hS hl
  refine lv_aload_n hx hb dL_law_212 rfl (lv_at hl 1 rfl) ?_
  refine lv_aload_n hx hb dL_law_213 rfl (lv_at hl 0 rfl) ?_
  refine lv_iload_n hx hb dL_law_214 rfl (lv_at hl 3 rfl) ?_
  refine lv_iconst (v := 1) hx hb dL_law_215 (by decide) ?_
  refine lv_iadd hx hb dL_law_216 ?_
  refine lv_topi (fun t1 et1 => ?_)
  have hin1 : vp_in t1 L := by rw [et1, hi, nI_1]; exact vp_in_nI (by omega) (by omega)
  refine va_sld hx hb hX hbl hbA hS hin1 dL_law_217 ?_
  refine lv_topi (fun x ex => ?_)
  refine kk_readV (ci := 0) (q0 := 0) (rest := []) ⟨hx, hb, hml, hown, hts⟩ (cD_count l D cA q0 q1 rg tt tk en ki os x) (cwV 1 hts gL_law_X0_count rfl rfl rfl (by decide +kernel) ⟨Nat.le_of_ble_eq_true rfl, Nat.le_of_ble_eq_true rfl⟩) hKd hPd (hDd _) rfl rfl rfl hl.1 rfl (Nat.le_of_ble_eq_true rfl) dL_law_218 ⟨Nat.le_refl 5, Nat.le_refl 7115⟩ ?_
  refine lv_aload_n hx hb dL_law_221 rfl (lv_at hl 2 rfl) ?_
  refine lv_aload_n hx hb dL_law_222 rfl (lv_at hl 0 rfl) ?_
  refine lv_iload_n hx hb dL_law_223 rfl (lv_at hl 3 rfl) ?_
  refine lv_iconst (v := 1) hx hb dL_law_224 (by decide) ?_
  refine lv_iadd hx hb dL_law_225 ?_
  refine lv_topi (fun t2 et2 => ?_)
  have hin2 : vp_in t2 L := by rw [et2, hi, nI_1]; exact vp_in_nI (by omega) (by omega)
  refine va_sld hx hb hX hbl hbA hS hin2 dL_law_226 ?_
  rw [show xs t2.toNatClampNeg = x from by rw [ex, et2, et1]]
  refine kk_readV (ci := 1) (q0 := 0) (rest := [.int (dk_count (rg, tt, tk, en, ki, os) x)]) ⟨hx, hb, hml, hown, hts⟩ (cM_count l D cR cY m0 m1 m2 ro sz op kd ta la li bt mn x (dm_ok hI)) (cwV 1 hts gL_law_X1_count rfl rfl rfl (by decide +kernel) ⟨Nat.le_of_ble_eq_true rfl, Nat.le_of_ble_eq_true rfl⟩) hKm hPm (hDm _) rfl rfl rfl hl.1 rfl (Nat.le_of_ble_eq_true rfl) dL_law_227 ⟨Nat.le_refl 5, Nat.le_refl 7115⟩ ?_
  refine lv_icmp_eq (tgt := 235) hx hb dL_law_230 (by decide) (fun c1 => ?_) (fun c1 => ?_)
  · exact hnext (rg, tt, tk, en, ki, os) (ro, sz, op, kd, ta, la, li, bt, mn) (dm_more hI) H locs ls hPd hPm hS hl
  · exact absurd (dm_count hI (by omega) x) c1
