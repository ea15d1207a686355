/-! own wrappers: a method over a fixed set of cells w, called where these cells lie in the world; its contract says what is answered and what the cells are behind it -/
def kk_Pre (D : va_G) (cl : List vw_C) (tys : List (ClassId × FieldType)) (w : va_W) (U : State) : Prop := va_P D cl w U.heap ∧ va_K D cl tys U ∧ va_D (fun _ => True) w
def kk_A (w : va_W) : Nat → Prop := fun q => ∃ (k : Nat) (e : va_E), w[k]? = some (q, e)
theorem kk_blind {D : va_G} {cl : List vw_C} {tys : List (ClassId × FieldType)} {w : va_W} {av : List Value} : FrameBlind (va_Pc av (kk_Pre D cl tys w)) := fun a U g mk q => ⟨q.1, q.2.1, va_K.moved (u := U) (U := U.calling g mk a) (Vm.Alike.refl U.vm) q.2.2.1, q.2.2.2⟩
theorem kk_pre {D : va_G} {cl : List vw_C} {tys : List (ClassId × FieldType)} {w : va_W} {av : List Value} {s : State} {H : Heap} {A : Nat → Prop} (hK : va_K D cl tys s) (hP : va_P D cl w H) (hD : va_D A w) : ∀ U : State, U.heap = H → s.WarmedH U.vm → va_Pc av (kk_Pre D cl tys w) av.toArray U := fun U hU hW => ⟨rfl, by rw [hU]; exact hP, va_K.moved hW.alike hK, hD.weaken (fun _ _ _ _ => trivial)⟩
theorem kk_D_self {w : va_W} {A : Nat → Prop} (h : va_D A w) : va_D (kk_A w) w := ⟨h.1, fun k q hk => ⟨k, q.2, hk⟩⟩
theorem kk_back {w w' : va_W} (e : w.map (fun q => q.1) = w'.map (fun q => q.1)) {k : Nat} {q : Nat × va_E} (h : w'[k]? = some q) : ∃ q0, w[k]? = some q0 ∧ q0.1 = q.1 := by
  have h1 : (w'.map (fun q => q.1))[k]? = some q.1 := by rw [List.getElem?_map, h]; rfl
  rw [← e, List.getElem?_map] at h1
  cases hw : w[k]? with
  | none => rw [hw] at h1; cases h1
  | some q0 => rw [hw] at h1; exact ⟨q0, rfl, Option.some.inj h1⟩
theorem kk_D_same {w w' : va_W} {A : Nat → Prop} (h : va_D A w) (e : w.map (fun q => q.1) = w'.map (fun q => q.1)) : va_D A w' := by
  refine ⟨fun i j p q hi hj hpq => ?_, fun k q hk => ?_⟩
  · obtain ⟨p0, a1, a2⟩ := kk_back e hi
    obtain ⟨q0, b1, b2⟩ := kk_back e hj
    exact h.1 i j p0 q0 a1 b1 (by rw [a2, b2, hpq])
  · obtain ⟨q0, a1, a2⟩ := kk_back e hk
    have h2 := h.2 k q0 a1
    rw [a2] at h2
    exact h2
theorem kk_of {l : Launch} {y : MethodName} {ws ws' : List Cond} {rm : Room} {D : va_G} {cl : List vw_C} {tys : List (ClassId × FieldType)} {w : va_W} {av : List Value} {Qc : Array Value → State → Outcome → State → Prop} {mc ms : Nat} {free : Addr → Prop} {cc : ByteArray} {maxL : Nat} {ret : Option FieldType} (hy : plainName y.cls = true) (hw : ws = Cond.code y cc maxL ret :: ws') (hsz : (lg_sl av).length ≤ maxL)
    (body : ∀ (p : Program) (e : Env) (s : State) (m : MethodId) (below : List Frame) (meth : Method) (c : Code) (ls : Array Slot), p.tables.exec = Jvm.exec → c.code = cc → meth.sig.returnType = ret → (∀ x ∈ ws, x.before av.toArray s = true) → s.vm.findClass y.cls = some m.cls → meth.locks = false → c.maxLocals = maxL → meth.name = y.name → va_P D cl w s.heap → va_K D cl tys s → va_D (kk_A w) w → lv_has ls maxL (lv_args 0 av) → W p l e rm s m av.toArray below meth c s.heap [] 0 0 (MQ below Qc av.toArray s mc ms free) (F0 m 0 ls [])) : Met l y ws rm (va_Pc av (kk_Pre D cl tys w)) Qc mc ms free := by
  refine Met.ofW hy hw ?_
  intro p e s m args below meth c s₁ B hml hv
  obtain ⟨rfl, hP, hK, hD0⟩ := hv
  have hl := lv_entry av (n := maxL) hsz
  rw [lg_entry_eq]
  exact body p e s m below meth c _ B.exec B.bytes B.returns (atoms_spec (ws := ws) B.pre) (findClass_of_methodNamed B.named) B.notSynchronized hml (name_of_methodNamed B.named B.method).1 hP hK (kk_D_self hD0) hl
theorem kk_ofS {l : Launch} {y : MethodName} {ws ws' : List Cond} {rm : Room} {av : List Value} {Qc : Array Value → State → Outcome → State → Prop} {mc ms : Nat} {free : Addr → Prop} {cc : ByteArray} {maxL : Nat} {ret : Option FieldType} (hy : plainName y.cls = true) (hw : ws = Cond.code y cc maxL ret :: ws') (hsz : (lg_sl av).length ≤ maxL)
    (body : ∀ (p : Program) (e : Env) (s : State) (m : MethodId) (below : List Frame) (meth : Method) (c : Code) (ls : Array Slot), p.tables.exec = Jvm.exec → c.code = cc → meth.sig.returnType = ret → (∀ x ∈ ws, x.before av.toArray s = true) → s.vm.findClass y.cls = some m.cls → meth.locks = false → c.maxLocals = maxL → lv_has ls maxL (lv_args 0 av) → W p l e rm s m av.toArray below meth c s.heap [] 0 0 (MQ below Qc av.toArray s mc ms free) (F0 m 0 ls [])) : Met l y ws rm (va_Pc av (fun _ => True)) Qc mc ms free := by
  refine Met.ofW hy hw ?_
  intro p e s m args below meth c s₁ B hml hv
  obtain ⟨rfl, -⟩ := hv
  have hl := lv_entry av (n := maxL) hsz
  rw [lg_entry_eq]
  exact body p e s m below meth c _ B.exec B.bytes B.returns (atoms_spec (ws := ws) B.pre) (findClass_of_methodNamed B.named) B.notSynchronized hml hl
section KC
variable {p : Program} {l : Launch} {e : Env} {R : Room} {s : State} {m : MethodId} {args : Array Value} {below : List Frame} {meth : Method} {c : Code} {H : Heap} {locs : List Loc} {cells slots : Nat} {Q : State → Prop}
variable {Ts ws : List Cond} {cc bytes : ByteArray} {nL maxL index n : Nat} {own C : String} {y : MethodName} {ret : Option FieldType} {rm : Room} {b : Nat} {As rest st0 : List Value} {pc : Nat} {ls : Array Slot} {D : va_G} {cl : List vw_C} {tys : List (ClassId × FieldType)} {w : va_W} {A : Nat → Prop} {H0 : Heap} {ci q0 : Nat} {T : u_T} {N : Nat} {fs : List Value}
theorem kk_readV {r : Int32} (S : CallFix p m c cc nL s args Ts own) (hM : Met l y ws rm (va_Pc (.ref b :: As) (kk_Pre D cl tys w)) (QcRead r) 0 0 (fun _ => False)) (cw : CallW R s args own C index y bytes maxL ret ws rm 0 0 n) (hK : va_K D cl tys s) (hP : va_P D cl w H) (hD : va_D A w) (hc : cl[ci]? = some (C, T, N)) (he : w[q0]? = some (b, .inr (ci, fs))) (hn : As.length = n) (hsize : ls.size = nL) (hst : st0 = As.reverse ++ .ref b :: rest) (hW : (rest.map fun v => v.category).sum ≤ 8) (hdg : decode cc pc = .ok (.invokevirtual index, 3)) (hf : cells ≤ R.cells ∧ slots ≤ R.slots)
    (kk : W p l e R s m args below meth c H locs cells slots Q (F0 m (pc + 3) ls (.int r :: rest))) : W p l e R s m args below meth c H locs cells slots Q (F0 m pc ls st0) := by
  subst hst
  exact W.callR (W.runV S hM cw ⟨kk_blind, va_recv hK hP hc he, kk_pre hK hP hD⟩ rfl hn hsize rfl (lv_room hW) hdg hf) kk
theorem kk_readS {r : Int32} (S : CallFix p m c cc nL s args Ts own) (hM : Met l y ws rm (va_Pc As (fun _ => True)) (QcRead r) 0 0 (fun _ => False)) (cw : CallB R s args own index y bytes maxL ret ws rm 0 0 n ∧ (Cond.static y).before args s = true) (hn : As.length = n) (hsize : ls.size = nL) (hst : st0 = As.reverse ++ rest) (hW : (rest.map fun v => v.category).sum ≤ 8) (hdg : decode cc pc = .ok (.invokestatic index, 3)) (hf : cells ≤ R.cells ∧ slots ≤ R.slots)
    (kk : W p l e R s m args below meth c H locs cells slots Q (F0 m (pc + 3) ls (.int r :: rest))) : W p l e R s m args below meth c H locs cells slots Q (F0 m pc ls st0) := by
  subst hst
  exact W.callR (W.runS S hM cw ⟨fun _ _ _ _ q => q, fun _ _ _ => ⟨rfl, trivial⟩⟩ rfl hn hsize rfl (lv_room hW) hdg hf) kk
theorem kk_mutV {σ : Type} {cs : σ → va_W} {post : σ → Prop} (S : CallFix p m c cc nL s args Ts own) (hM : Met l y ws rm (va_Pc (.ref b :: As) (kk_Pre D cl tys w)) (va_Qv post (fun u t => va_P D cl (cs u) t.heap) (kk_A w)) 0 0 (kk_A w)) (cw : CallW R s args own C index y bytes maxL ret ws rm 0 0 n) (hK : va_K D cl tys s) (hP : va_P D cl w H) (hD : va_D A w) (hS : va_S A H0 H locs) (hc : cl[ci]? = some (C, T, N)) (he : w[q0]? = some (b, .inr (ci, fs))) (hn : As.length = n) (hsize : ls.size = nL) (hst : st0 = As.reverse ++ .ref b :: rest) (hW : (rest.map fun v => v.category).sum ≤ 8) (hdg : decode cc pc = .ok (.invokevirtual index, 3)) (hf : cells ≤ R.cells ∧ slots ≤ R.slots)
    (kk : ∀ (u : σ) (H1 : Heap) (locs1 : List Loc), post u → va_P D cl (cs u) H1 → va_S A H0 H1 locs1 → H.size ≤ H1.size → (∀ q : Nat, q < H.size → ¬ kk_A w q → H1[q]? = H[q]?) → W p l e R s m args below meth c H1 locs1 cells slots Q (F0 m (pc + 3) ls rest)) : W p l e R s m args below meth c H locs cells slots Q (F0 m pc ls st0) := by
  subst hst
  have hA : ∀ q, kk_A w q → A q := fun q h => by obtain ⟨k, x, h⟩ := h; exact hD.2 k _ h
  refine va_callv (va_runV S hM cw ⟨kk_blind, va_recv hK hP hc he, kk_pre hK hP hD⟩ rfl hn hsize rfl (lv_room hW) hdg hf) hS (fun q _ h => hA q h) hA (fun u t H1 locs1 ht hvm hw hB hz hk hS1 => ?_)
  rw [ht] at hB
  exact kk u H1 locs1 hw hB hS1 hz hk
theorem kk_mutI {σ : Type} {cs : σ → va_W} {post : Int32 → σ → Prop} (S : CallFix p m c cc nL s args Ts own) (hM : Met l y ws rm (va_Pc (.ref b :: As) (kk_Pre D cl tys w)) (va_Qi post (fun u t => va_P D cl (cs u) t.heap) (kk_A w)) 0 0 (kk_A w)) (cw : CallW R s args own C index y bytes maxL ret ws rm 0 0 n) (hK : va_K D cl tys s) (hP : va_P D cl w H) (hD : va_D A w) (hS : va_S A H0 H locs) (hc : cl[ci]? = some (C, T, N)) (he : w[q0]? = some (b, .inr (ci, fs))) (hn : As.length = n) (hsize : ls.size = nL) (hst : st0 = As.reverse ++ .ref b :: rest) (hW : (rest.map fun v => v.category).sum ≤ 8) (hdg : decode cc pc = .ok (.invokevirtual index, 3)) (hf : cells ≤ R.cells ∧ slots ≤ R.slots)
    (kk : ∀ (r : Int32) (u : σ) (H1 : Heap) (locs1 : List Loc), post r u → va_P D cl (cs u) H1 → va_S A H0 H1 locs1 → H.size ≤ H1.size → (∀ q : Nat, q < H.size → ¬ kk_A w q → H1[q]? = H[q]?) → W p l e R s m args below meth c H1 locs1 cells slots Q (F0 m (pc + 3) ls (.int r :: rest))) : W p l e R s m args below meth c H locs cells slots Q (F0 m pc ls st0) := by
  subst hst
  have hA : ∀ q, kk_A w q → A q := fun q h => by obtain ⟨k, x, h⟩ := h; exact hD.2 k _ h
  refine va_calli (va_runV S hM cw ⟨kk_blind, va_recv hK hP hc he, kk_pre hK hP hD⟩ rfl hn hsize rfl (lv_room hW) hdg hf) hS (fun q _ h => hA q h) hA (fun r u t H1 locs1 ht hvm hw hB hz hk hS1 => ?_)
  rw [ht] at hB
  exact kk r u H1 locs1 hw hB hS1 hz hk
theorem kk_mutL {σ : Type} {cs : σ → va_W} {post : Int64 → σ → Prop} (S : CallFix p m c cc nL s args Ts own) (hM : Met l y ws rm (va_Pc (.ref b :: As) (kk_Pre D cl tys w)) (va_Ql post (fun u t => va_P D cl (cs u) t.heap) (kk_A w)) 0 0 (kk_A w)) (cw : CallW R s args own C index y bytes maxL ret ws rm 0 0 n) (hK : va_K D cl tys s) (hP : va_P D cl w H) (hD : va_D A w) (hS : va_S A H0 H locs) (hc : cl[ci]? = some (C, T, N)) (he : w[q0]? = some (b, .inr (ci, fs))) (hn : As.length = n) (hsize : ls.size = nL) (hst : st0 = As.reverse ++ .ref b :: rest) (hW : (rest.map fun v => v.category).sum ≤ 8) (hdg : decode cc pc = .ok (.invokevirtual index, 3)) (hf : cells ≤ R.cells ∧ slots ≤ R.slots)
    (kk : ∀ (r : Int64) (u : σ) (H1 : Heap) (locs1 : List Loc), post r u → va_P D cl (cs u) H1 → va_S A H0 H1 locs1 → H.size ≤ H1.size → (∀ q : Nat, q < H.size → ¬ kk_A w q → H1[q]? = H[q]?) → W p l e R s m args below meth c H1 locs1 cells slots Q (F0 m (pc + 3) ls (.long r :: rest))) : W p l e R s m args below meth c H locs cells slots Q (F0 m pc ls st0) := by
  subst hst
  have hA : ∀ q, kk_A w q → A q := fun q h => by obtain ⟨k, x, h⟩ := h; exact hD.2 k _ h
  refine va_calll (va_runV S hM cw ⟨kk_blind, va_recv hK hP hc he, kk_pre hK hP hD⟩ rfl hn hsize rfl (lv_room hW) hdg hf) hS (fun q _ h => hA q h) hA (fun r u t H1 locs1 ht hvm hw hB hz hk hS1 => ?_)
  rw [ht] at hB
  exact kk r u H1 locs1 hw hB hS1 hz hk
end KC
