/-! lists written: what the lists stand on (cY), calls over any world, copying, growing, adding at the end -/
def ywd : List Cond := [.castable RX2 "java/lang/Object", .castable RX0 "java/lang/Object", .castable RX3 "java/lang/Object", .castable RX1 "java/lang/Object", .declares ⟨"java/lang/Object", "getClass", "()Ljava/lang/Class;"⟩]
theorem ywd_on : ∀ w ∈ ywd, w.onTables = true := by decide +kernel
theorem ywd_warm {s U : State} (hW : s.WarmedH U.vm) (h : ∀ w ∈ ywd, va_Nw w s) : ∀ w ∈ ywd, va_Nw w U := by
  intro w hw
  have k := h w hw
  simp only [ywd, List.mem_cons, List.not_mem_nil, or_false] at hw
  rcases hw with rfl | rfl | rfl | rfl | rfl
  · exact k.warmC hW
  · exact k.warmC hW
  · exact k.warmC hW
  · exact k.warmC hW
  · exact k.warmD hW
/-- an array of references of which the tables tell no more than its length -/
def ln0 (U : State) (a n : Nat) (H : Heap) : Prop := ∃ cell : Cell, H[a]? = some cell ∧ U.isArrayOf cell (.object "java/lang/Object") ∧ cell.slots.size = n
theorem ln0.moved {u U : State} {a n : Nat} {H : Heap} (hvm : u.vm.Alike U.vm) (h : ln0 u a n H) : ln0 U a n H := by
  obtain ⟨c, h1, h2, h3⟩ := h
  exact ⟨c, h1, State.isArrayOf_alike hvm h2, h3⟩
theorem ln0.kept {U : State} {a n : Nat} {H H1 : Heap} (h : ln0 U a n H) (hq : H1[a]? = H[a]?) : ln0 U a n H1 := by
  obtain ⟨c, h1, h2⟩ := h
  exact ⟨c, hq.trans h1, h2⟩
theorem ln0.lt {U : State} {a n : Nat} {H : Heap} (h : ln0 U a n H) : a < H.size := by
  obtain ⟨c, h1, -⟩ := h
  exact (Array.getElem?_eq_some_iff.mp h1).1
theorem ln0.of {D : va_G} {cI cO : ClassId} {U : State} {r n : Nat} {f : Nat → Option Nat} {H : Heap} (hK : va_K D vwCl (cT cI cO) U) (h1 : va_at D vwCl (r, rE cO n f) H) : ln0 U r n H := ⟨_, h1, (hK.2 1 _ rfl).1 n (fun j => va_rf (f j)), arrV_size _ _ _⟩
def cY (A : Nat → Prop) (aE : Nat) (cO : ClassId) (U : State) : Prop := va_Z "java/util/ArrayList" "DEFAULTCAPACITY_EMPTY_ELEMENTDATA" "[Ljava/lang/Object;" (.ref aE) A U U.heap ∧ ln0 U aE 0 U.heap ∧ ¬ A aE ∧ va_AO "java/lang/Object" U ∧ (∃ mi, va_Mi "[Ljava/lang/Object;" mi U) ∧ (∀ w ∈ ywd, va_Nw w U) ∧ (∀ a : Nat, U.heap.size ≤ a → A a)
theorem cY_at {A : Nat → Prop} {aE : Nat} {cO : ClassId} {s U : State} {H : Heap} {locs : List Loc} (h : cY A aE cO s) (hS : va_S A s.heap H locs) (hU : U.heap = H) (hW : s.WarmedH U.vm) : cY A aE cO U := by
  obtain ⟨h1, h2, h3, h4, h5, h6, h7⟩ := h
  have k : ∀ a : Nat, a < s.heap.size → ¬ A a → U.heap[a]? = s.heap[a]? := fun a q w => by rw [hU]; exact hS.2.1 a q w
  exact ⟨(h1.kept k).moved hW.alike, (h2.kept (k aE h2.lt h3)).moved hW.alike, h3, h4.moved hW.alike, h5.elim fun mi w => ⟨mi, w.moved hW.alike⟩, ywd_warm hW h6, fun a q => h7 a (Nat.le_trans hS.1 (by rw [← hU]; exact q))⟩
theorem cY_bl {A : Nat → Prop} {aE : Nat} {cO : ClassId} {U : State} {g : JFrame} {mk : MethodId} {a : Array Value} (q : cY A aE cO U) : cY A aE cO (U.calling g mk a) := ⟨q.1.moved (u := U) (U := U.calling g mk a) (Vm.Alike.refl U.vm), q.2.1.moved (u := U) (U := U.calling g mk a) (Vm.Alike.refl U.vm), q.2.2.1, q.2.2.2.1.moved (u := U) (U := U.calling g mk a) (Vm.Alike.refl U.vm), q.2.2.2.2.1.elim fun mi w => ⟨mi, w.moved (u := U) (U := U.calling g mk a) (Vm.Alike.refl U.vm)⟩, fun w hw => va_Nw.same (u := U) (U := U.calling g mk a) (ywd_on w hw) rfl (q.2.2.2.2.2.1 w hw), q.2.2.2.2.2.2⟩
/-- what a list's row holds: live objects -/
def EL (N cap : Nat → Nat) (g : Gh) (f : Nat → Option Nat) : Prop := ∀ i y, f i = some y → ∃ k j, lv N cap k j ∧ (k = 4 ∨ k = 5 ∨ k = 6 ∨ k = 8) ∧ y = g k j
def qY (D : va_G) (cI cO : ClassId) (A : Nat → Prop) (aE : Nat) (g : Gh) (cap N : Nat → Nat) (rw : Nat → Nat → Option Nat) (τ : St) (U : State) : Prop := qU D cI cO A g cap N rw τ U ∧ cY A aE cO U
theorem qBl {D : va_G} {cI cO : ClassId} {A : Nat → Prop} {g : Gh} {cap N : Nat → Nat} {rw : Nat → Nat → Option Nat} {τ : St} {av : List Value} : FrameBlind (va_Pc av (qU D cI cO A g cap N rw τ)) := fun a U g mk q => ⟨q.1, q.2.1, va_K.moved (u := U) (U := U.calling g mk a) (Vm.Alike.refl U.vm) q.2.2⟩
theorem qyBl {D : va_G} {cI cO : ClassId} {A : Nat → Prop} {aE : Nat} {g : Gh} {cap N : Nat → Nat} {rw : Nat → Nat → Option Nat} {τ : St} {av : List Value} : FrameBlind (va_Pc av (qY D cI cO A aE g cap N rw τ)) := fun a U g mk q => ⟨q.1, ⟨q.2.1.1, va_K.moved (u := U) (U := U.calling g mk a) (Vm.Alike.refl U.vm) q.2.1.2⟩, cY_bl q.2.2⟩
theorem qmBl {D : va_G} {cI cO : ClassId} {A : Nat → Prop} {aE mi : Nat} {g : Gh} {cap N : Nat → Nat} {rw : Nat → Nat → Option Nat} {τ : St} {av : List Value} : FrameBlind (va_Pc av (fun U => qY D cI cO A aE g cap N rw τ U ∧ va_Mi "[Ljava/lang/Object;" mi U)) := fun a U g mk q => ⟨q.1, ⟨⟨q.2.1.1.1, va_K.moved (u := U) (U := U.calling g mk a) (Vm.Alike.refl U.vm) q.2.1.1.2⟩, cY_bl q.2.1.2⟩, q.2.2.moved (u := U) (U := U.calling g mk a) (Vm.Alike.refl U.vm)⟩
section KLW
variable {p : Program} {l : Launch} {e : Env} {R : Room} {s : State} {m : MethodId} {args : Array Value} {below : List Frame} {meth : Method} {c : Code} {H : Heap} {locs : List Loc} {cells slots : Nat} {Q : State → Prop}
variable {cc : ByteArray} {pc : Nat} {ls : Array Slot} {rest : List Value} {D : va_G} {A : Nat → Prop} {H0 : Heap} {Ts : List Cond} {own C : String} {idx : Nat} {cI cO : ClassId} {g : Gh} {cap N : Nat → Nat} {rw : Nat → Nat → Option Nat} {τ : St}
theorem lq_len0 (E : kE p c cc s m args Ts own D cI cO) {r n : Nat} (h1 : ln0 s r n H) (hdg : decode cc pc = .ok (.arraylength, 1)) (kk : W p l e R s m args below meth c H locs cells slots Q (F0 m (pc + 1) ls (.int (nI n) :: rest))) : W p l e R s m args below meth c H locs cells slots Q (F0 m pc ls (.ref r :: rest)) := by
  obtain ⟨cell, a, b, d⟩ := h1
  exact W.alen (n := Int32.ofNat n) E.1.1 E.1.2 a b (by rw [d] <;> rfl) rfl rfl hdg kk
theorem el_cell (E : kE p c cc s m args Ts own D cI cO) (hQ : cQ D cI cO A g cap N rw τ H) (hw : ∀ w ∈ ywd, va_Nw w s) {f : Nat → Option Nat} (hel : EL N cap g f) (i y : Nat) (h : f i = some y) : ∃ (C : String) (cell : Cell), H[y]? = some cell ∧ cell.vm.isStatics = false ∧ s.vm.findClass C = some cell.cls ∧ va_Nw (.castable C "java/lang/Object") s := by
  obtain ⟨k, j, hl, hk, rfl⟩ := hel i y h
  have h1 := (hQ.1 k j hl).1
  rcases hk with rfl | rfl | rfl | rfl
  · rw [cD_o (by decide)] at h1
    obtain ⟨cell, a, b, c⟩ := va_recv E.2.2.2 (one_P h1) (ci := 5) (q0 := 0) rfl rfl
    exact ⟨_, cell, a, b, c, hw _ (by decide +kernel)⟩
  · rw [cD_o (by decide)] at h1
    obtain ⟨cell, a, b, c⟩ := va_recv E.2.2.2 (one_P h1) (ci := 3) (q0 := 0) rfl rfl
    exact ⟨_, cell, a, b, c, hw _ (by decide +kernel)⟩
  · rw [cD_o (by decide)] at h1
    obtain ⟨cell, a, b, c⟩ := va_recv E.2.2.2 (one_P h1) (ci := 6) (q0 := 0) rfl rfl
    exact ⟨_, cell, a, b, c, hw _ (by decide +kernel)⟩
  · rw [cD_o (by decide)] at h1
    obtain ⟨cell, a, b, c⟩ := va_recv E.2.2.2 (one_P h1) (ci := 4) (q0 := 0) rfl rfl
    exact ⟨_, cell, a, b, c, hw _ (by decide +kernel)⟩
theorem el_list (hK : va_K D vwCl (cT cI cO) s) (hQ : cQ D cI cO A g cap N rw τ H) {q : Nat} (hq : lv N cap 1 q) : ∃ cell : Cell, H[g 1 q]? = some cell ∧ cell.vm.isStatics = false ∧ s.vm.findClass RJx4a65c = some cell.cls := by
  have h1 := (hQ.1 1 q hq).1
  rw [cD_o (by decide)] at h1
  exact va_recv hK (one_P h1) (ci := 2) (q0 := 0) rfl rfl
theorem kqV_i {S : Type} {PU : State → Prop} {y : MethodName} {ws : List Cond} {rm : Room} {bytes : ByteArray} {maxL nL n mc ms index : Nat} {ret : Option FieldType} {As st0 : List Value} {b : Addr} {post : Int32 → S → Prop} {B : S → State → Prop} (E : kE p c cc s m args Ts own D cI cO) (hml : c.maxLocals = nL) (hS : va_S A s.heap H locs) (hrc : ∃ cell : Cell, H[b]? = some cell ∧ cell.vm.isStatics = false ∧ s.vm.findClass C = some cell.cls) (hbl : FrameBlind (va_Pc (.ref b :: As) PU)) (hPU : ∀ U : State, U.heap = H → s.WarmedH U.vm → PU U) (ct : Met l y ws rm (va_Pc (.ref b :: As) PU) (va_Qi post B A) mc ms A) (cw : CallW R s args own C index y bytes maxL ret ws rm mc ms n) (hn : As.length = n) (hsz : ls.size = nL) (hst : st0 = As.reverse ++ .ref b :: rest) (hW : (rest.map fun v => v.category).sum ≤ 8) (hdg : decode cc pc = .ok (.invokevirtual index, 3)) (hf : cells + mc ≤ R.cells ∧ slots + ms ≤ R.slots) (kk : ∀ (r : Int32) (u : S) (t : State) (H1 : Heap) (locs1 : List Loc), t.heap = H1 → s.vm.Alike t.vm → post r u → B u t → H.size ≤ H1.size → (∀ q : Nat, q < H.size → ¬ A q → H1[q]? = H[q]?) → va_S A s.heap H1 locs1 → W p l e R s m args below meth c H1 locs1 (cells + mc) (slots + ms) Q (F0 m (pc + 3) ls (.int r :: rest))) : W p l e R s m args below meth c H locs cells slots Q (F0 m pc ls st0) := va_calli (va_runV (As := As) (rest := rest) ⟨E.1.1, E.1.2, hml, E.2.2.1, E.2.1⟩ ct cw ⟨hbl, hrc, fun U hU hW => ⟨rfl, hPU U hU hW⟩⟩ rfl hn hsz hst (lv_room hW) hdg hf) hS (fun _ _ q => q) (fun _ q => q) (fun r u t H1 locs1 ht hvm hw hB hz hk hS1 => kk r u t H1 locs1 ht hvm hw hB hz hk hS1)
theorem kqS_i {S : Type} {PU : State → Prop} {y : MethodName} {ws : List Cond} {rm : Room} {bytes : ByteArray} {maxL nL n mc ms index : Nat} {ret : Option FieldType} {As st0 : List Value} {post : Int32 → S → Prop} {B : S → State → Prop} (E : kE p c cc s m args Ts own D cI cO) (hml : c.maxLocals = nL) (hS : va_S A s.heap H locs) (hbl : FrameBlind (va_Pc (As) PU)) (hPU : ∀ U : State, U.heap = H → s.WarmedH U.vm → PU U) (ct : Met l y ws rm (va_Pc (As) PU) (va_Qi post B A) mc ms A) (cw : CallB R s args own index y bytes maxL ret ws rm mc ms n ∧ (Cond.static y).before args s = true) (hn : As.length = n) (hsz : ls.size = nL) (hst : st0 = As.reverse ++ rest) (hW : (rest.map fun v => v.category).sum ≤ 8) (hdg : decode cc pc = .ok (.invokestatic index, 3)) (hf : cells + mc ≤ R.cells ∧ slots + ms ≤ R.slots) (kk : ∀ (r : Int32) (u : S) (t : State) (H1 : Heap) (locs1 : List Loc), t.heap = H1 → s.vm.Alike t.vm → post r u → B u t → H.size ≤ H1.size → (∀ q : Nat, q < H.size → ¬ A q → H1[q]? = H[q]?) → va_S A s.heap H1 locs1 → W p l e R s m args below meth c H1 locs1 (cells + mc) (slots + ms) Q (F0 m (pc + 3) ls (.int r :: rest))) : W p l e R s m args below meth c H locs cells slots Q (F0 m pc ls st0) := va_calli (va_runS (As := As) (rest := rest) ⟨E.1.1, E.1.2, hml, E.2.2.1, E.2.1⟩ ct cw ⟨hbl, fun U hU hW => ⟨rfl, hPU U hU hW⟩⟩ rfl hn hsz hst (lv_room hW) hdg hf) hS (fun _ _ q => q) (fun _ q => q) (fun r u t H1 locs1 ht hvm hw hB hz hk hS1 => kk r u t H1 locs1 ht hvm hw hB hz hk hS1)
theorem kqV_v {S : Type} {PU : State → Prop} {y : MethodName} {ws : List Cond} {rm : Room} {bytes : ByteArray} {maxL nL n mc ms index : Nat} {ret : Option FieldType} {As st0 : List Value} {b : Addr} {post : S → Prop} {B : S → State → Prop} (E : kE p c cc s m args Ts own D cI cO) (hml : c.maxLocals = nL) (hS : va_S A s.heap H locs) (hrc : ∃ cell : Cell, H[b]? = some cell ∧ cell.vm.isStatics = false ∧ s.vm.findClass C = some cell.cls) (hbl : FrameBlind (va_Pc (.ref b :: As) PU)) (hPU : ∀ U : State, U.heap = H → s.WarmedH U.vm → PU U) (ct : Met l y ws rm (va_Pc (.ref b :: As) PU) (va_Qv post B A) mc ms A) (cw : CallW R s args own C index y bytes maxL ret ws rm mc ms n) (hn : As.length = n) (hsz : ls.size = nL) (hst : st0 = As.reverse ++ .ref b :: rest) (hW : (rest.map fun v => v.category).sum ≤ 8) (hdg : decode cc pc = .ok (.invokevirtual index, 3)) (hf : cells + mc ≤ R.cells ∧ slots + ms ≤ R.slots) (kk : ∀ (u : S) (t : State) (H1 : Heap) (locs1 : List Loc), t.heap = H1 → s.vm.Alike t.vm → post u → B u t → H.size ≤ H1.size → (∀ q : Nat, q < H.size → ¬ A q → H1[q]? = H[q]?) → va_S A s.heap H1 locs1 → W p l e R s m args below meth c H1 locs1 (cells + mc) (slots + ms) Q (F0 m (pc + 3) ls rest)) : W p l e R s m args below meth c H locs cells slots Q (F0 m pc ls st0) := va_callv (va_runV (As := As) (rest := rest) ⟨E.1.1, E.1.2, hml, E.2.2.1, E.2.1⟩ ct cw ⟨hbl, hrc, fun U hU hW => ⟨rfl, hPU U hU hW⟩⟩ rfl hn hsz hst (lv_room hW) hdg hf) hS (fun _ _ q => q) (fun _ q => q) (fun u t H1 locs1 ht hvm hw hB hz hk hS1 => kk u t H1 locs1 ht hvm hw hB hz hk hS1)
theorem kqS_v {S : Type} {PU : State → Prop} {y : MethodName} {ws : List Cond} {rm : Room} {bytes : ByteArray} {maxL nL n mc ms index : Nat} {ret : Option FieldType} {As st0 : List Value} {post : S → Prop} {B : S → State → Prop} (E : kE p c cc s m args Ts own D cI cO) (hml : c.maxLocals = nL) (hS : va_S A s.heap H locs) (hbl : FrameBlind (va_Pc (As) PU)) (hPU : ∀ U : State, U.heap = H → s.WarmedH U.vm → PU U) (ct : Met l y ws rm (va_Pc (As) PU) (va_Qv post B A) mc ms A) (cw : CallB R s args own index y bytes maxL ret ws rm mc ms n ∧ (Cond.static y).before args s = true) (hn : As.length = n) (hsz : ls.size = nL) (hst : st0 = As.reverse ++ rest) (hW : (rest.map fun v => v.category).sum ≤ 8) (hdg : decode cc pc = .ok (.invokestatic index, 3)) (hf : cells + mc ≤ R.cells ∧ slots + ms ≤ R.slots) (kk : ∀ (u : S) (t : State) (H1 : Heap) (locs1 : List Loc), t.heap = H1 → s.vm.Alike t.vm → post u → B u t → H.size ≤ H1.size → (∀ q : Nat, q < H.size → ¬ A q → H1[q]? = H[q]?) → va_S A s.heap H1 locs1 → W p l e R s m args below meth c H1 locs1 (cells + mc) (slots + ms) Q (F0 m (pc + 3) ls rest)) : W p l e R s m args below meth c H locs cells slots Q (F0 m pc ls st0) := va_callv (va_runS (As := As) (rest := rest) ⟨E.1.1, E.1.2, hml, E.2.2.1, E.2.1⟩ ct cw ⟨hbl, fun U hU hW => ⟨rfl, hPU U hU hW⟩⟩ rfl hn hsz hst (lv_room hW) hdg hf) hS (fun _ _ q => q) (fun _ q => q) (fun u t H1 locs1 ht hvm hw hB hz hk hS1 => kk u t H1 locs1 ht hvm hw hB hz hk hS1)
theorem kqV_r {S : Type} {PU : State → Prop} {y : MethodName} {ws : List Cond} {rm : Room} {bytes : ByteArray} {maxL nL n mc ms index : Nat} {ret : Option FieldType} {As st0 : List Value} {b : Addr} {post : S → Prop} {B : S → Nat → State → Prop} (E : kE p c cc s m args Ts own D cI cO) (hml : c.maxLocals = nL) (hS : va_S A s.heap H locs) (hrc : ∃ cell : Cell, H[b]? = some cell ∧ cell.vm.isStatics = false ∧ s.vm.findClass C = some cell.cls) (hbl : FrameBlind (va_Pc (.ref b :: As) PU)) (hPU : ∀ U : State, U.heap = H → s.WarmedH U.vm → PU U) (ct : Met l y ws rm (va_Pc (.ref b :: As) PU) (va_Qr post B A) mc ms A) (cw : CallW R s args own C index y bytes maxL ret ws rm mc ms n) (hn : As.length = n) (hsz : ls.size = nL) (hst : st0 = As.reverse ++ .ref b :: rest) (hW : (rest.map fun v => v.category).sum ≤ 8) (hdg : decode cc pc = .ok (.invokevirtual index, 3)) (hf : cells + mc ≤ R.cells ∧ slots + ms ≤ R.slots) (kk : ∀ (u : S) (ra : Nat) (t : State) (H1 : Heap) (locs1 : List Loc), t.heap = H1 → s.vm.Alike t.vm → post u → B u ra t → H.size ≤ H1.size → (∀ q : Nat, q < H.size → ¬ A q → H1[q]? = H[q]?) → va_S A s.heap H1 locs1 → W p l e R s m args below meth c H1 locs1 (cells + mc) (slots + ms) Q (F0 m (pc + 3) ls (.ref ra :: rest))) : W p l e R s m args below meth c H locs cells slots Q (F0 m pc ls st0) := va_callr (va_runV (As := As) (rest := rest) ⟨E.1.1, E.1.2, hml, E.2.2.1, E.2.1⟩ ct cw ⟨hbl, hrc, fun U hU hW => ⟨rfl, hPU U hU hW⟩⟩ rfl hn hsz hst (lv_room hW) hdg hf) hS (fun _ _ q => q) (fun _ q => q) (fun u ra t H1 locs1 ht hvm hw hB hz hk hS1 => kk u ra t H1 locs1 ht hvm hw hB hz hk hS1)
theorem kqS_r {S : Type} {PU : State → Prop} {y : MethodName} {ws : List Cond} {rm : Room} {bytes : ByteArray} {maxL nL n mc ms index : Nat} {ret : Option FieldType} {As st0 : List Value} {post : S → Prop} {B : S → Nat → State → Prop} (E : kE p c cc s m args Ts own D cI cO) (hml : c.maxLocals = nL) (hS : va_S A s.heap H locs) (hbl : FrameBlind (va_Pc (As) PU)) (hPU : ∀ U : State, U.heap = H → s.WarmedH U.vm → PU U) (ct : Met l y ws rm (va_Pc (As) PU) (va_Qr post B A) mc ms A) (cw : CallB R s args own index y bytes maxL ret ws rm mc ms n ∧ (Cond.static y).before args s = true) (hn : As.length = n) (hsz : ls.size = nL) (hst : st0 = As.reverse ++ rest) (hW : (rest.map fun v => v.category).sum ≤ 8) (hdg : decode cc pc = .ok (.invokestatic index, 3)) (hf : cells + mc ≤ R.cells ∧ slots + ms ≤ R.slots) (kk : ∀ (u : S) (ra : Nat) (t : State) (H1 : Heap) (locs1 : List Loc), t.heap = H1 → s.vm.Alike t.vm → post u → B u ra t → H.size ≤ H1.size → (∀ q : Nat, q < H.size → ¬ A q → H1[q]? = H[q]?) → va_S A s.heap H1 locs1 → W p l e R s m args below meth c H1 locs1 (cells + mc) (slots + ms) Q (F0 m (pc + 3) ls (.ref ra :: rest))) : W p l e R s m args below meth c H locs cells slots Q (F0 m pc ls st0) := va_callr (va_runS (As := As) (rest := rest) ⟨E.1.1, E.1.2, hml, E.2.2.1, E.2.1⟩ ct cw ⟨hbl, fun U hU hW => ⟨rfl, hPU U hU hW⟩⟩ rfl hn hsz hst (lv_room hW) hdg hf) hS (fun _ _ q => q) (fun _ q => q) (fun u ra t H1 locs1 ht hvm hw hB hz hk hS1 => kk u ra t H1 locs1 ht hvm hw hB hz hk hS1)
/-- references copied from one array of Objects into another -/
theorem lq_cpy (E : kE p c cc s m args Ts own D cI cO) (hml : c.maxLocals = ls.size) (hw : Cond.methodLink own idx arraycopyName ∈ Ts ∧ Cond.native arraycopyName ∈ Ts ∧ Cond.static arraycopyName ∈ Ts ∧ Cond.initialized "java/lang/System" ∈ Ts) {a0 a n0 n1 : Nat} {f f1 : Nat → Option Nat} (ha0 : va_at D vwCl (a0, rE cO n0 f) H) (ha1 : va_at D vwCl (a, rE cO n1 f1) H) (hAa : A a) (hS : va_S A H0 H locs) {sp dp n : Int32} (h1 : ¬ sp < 0) (h2 : ¬ dp < 0) (h3 : ¬ n < 0) (h4 : sp.toNatClampNeg + n.toNatClampNeg ≤ n0) (h5 : dp.toNatClampNeg + n.toNatClampNeg ≤ n1) (hel : ∀ i y, f i = some y → ∃ (C : String) (cell : Cell), H[y]? = some cell ∧ cell.vm.isStatics = false ∧ s.vm.findClass C = some cell.cls ∧ va_Nw (.castable C "java/lang/Object") s) (hfr : 1 ≤ R.frames) (hlo : (rest.map fun v => v.category).sum + (nativeFrameWords "java/lang/System" "arraycopy" 5 + 11) ≤ R.locals) (hdg : decode cc pc = .ok (.invokestatic idx, 3))
    (kk : ∀ (H1 : Heap) (locs1 : List Loc), va_at D vwCl (a, rE cO n1 (va_cpy f f1 sp.toNatClampNeg dp.toNatClampNeg n.toNatClampNeg)) H1 → (∀ x : Nat, x ≠ a → H1[x]? = H[x]?) → H1.size = H.size → va_S A H0 H1 locs1 → W p l e R s m args below meth c H1 locs1 cells slots Q (F0 m (pc + 3) ls rest)) : W p l e R s m args below meth c H locs cells slots Q (F0 m pc ls (.int n :: .int dp :: .ref a :: .int sp :: .ref a0 :: rest)) := by
  intro T hT X
  have toN : ∀ z : Int32, ¬ z < 0 → z.toInt = (z.toNatClampNeg : Int) := fun z hz => by
    obtain ⟨j, hj, rfl⟩ := nI_of hz
    rw [nI_toInt hj, nI_clamp hj]
  obtain ⟨-, kA, hkA, cm, hkind⟩ := (E.2.2.2.2 1 _ rfl).1 n0 (fun j => va_rf (f j))
  have hkA1 : s.vm.classes[cO]? = some kA := hkA
  have hc0 : T.heap[a0]? = some (arrV cO n0 (fun j => va_rf (f j))) := by rw [hT]; exact ha0
  have hc1 : T.heap[a]? = some (arrV cO n1 (fun j => va_rf (f1 j))) := by rw [hT]; exact ha1
  obtain ⟨kB, comp, r1, r2, r3, -⟩ := (E.2.2.2.2 1 _ rfl).2
  obtain ⟨kE, hkE, -⟩ := Vm.findClass_spec r3
  obtain ⟨vm', X', step⟩ := X.arraycopy E.1.1 E.2.2.1 (E.2.1 _ hw.1) (E.2.1 _ hw.2.1) (E.2.1 _ hw.2.2.1) (E.2.1 _ hw.2.2.2) hc0 hc1 (srcPos := sp) (destPos := dp) (n := n)
    (fun _ h => by cases h) (fun _ h => by cases h) (fun h => by cases h) (fun h => by cases h) hkA1 hkA1 hkind hkind rfl h1 h2 h3
    (by rw [toN sp h1, toN n h3, arrV_size]; omega) (by rw [toN dp h2, toN n h3, arrV_size]; omega)
    (fun vm1 hal i hi => by
      rw [show (arrV cO n0 (fun j => va_rf (f j))).slots.getD (sp.toNatClampNeg + i) .null = va_rf (f (sp.toNatClampNeg + i)) by rw [Array.getD_eq_getD_getElem?, arrV_read _ _ (by omega)]; rfl]
      cases hy : f (sp.toNatClampNeg + i) with
      | none => exact ⟨rfl, trivial⟩
      | some y =>
        obtain ⟨C, cell, g1, g2, g3, g4⟩ := hel _ y hy
        cases hkA1.symm.trans r1
        cases hkind.symm.trans r2
        obtain ⟨kC, hkC, -⟩ := Vm.findClass_spec g3
        obtain ⟨kC', hkC', -⟩ := hal.2.2 _ _ hkC
        obtain ⟨kE', hkE', -⟩ := hal.2.2 _ _ hkE
        exact ⟨rfl, cell, (show T.heap[y]? = some cell by rw [hT]; exact g1), (fun q h => by rw [h] at g2; cases g2), ⟨kC', hkC'⟩, ⟨kE', hkE'⟩, (show vm1.assignable _ _ = true by rw [hal.assignable]; exact vb_asgC g4 _ _ r3 g3)⟩)
    (g := F0 m pc ls (.int n :: .int dp :: .ref a :: .int sp :: .ref a0 :: rest)) rfl (by rw [hml]) (rest := rest) rfl (by rw [E.1.2]; exact hdg) hfr (by show 2 * 0 + _ + _ ≤ _; omega)
  rw [show copied (arrV cO n0 (fun j => va_rf (f j))) (arrV cO n1 (fun j => va_rf (f1 j))) sp dp n = arrV cO n1 (fun j => va_rf (va_cpy f f1 sp.toNatClampNeg dp.toNatClampNeg n.toNatClampNeg j)) from va_copied (fun z => va_rf z) cO cO f f1 h4] at X' step
  have hl : a < H.size := (Array.getElem?_eq_some_iff.mp ha1).1
  have hheap : ((T.setVm vm').setCell a (arrV cO n1 (fun j => va_rf (va_cpy f f1 sp.toNatClampNeg dp.toNatClampNeg n.toNatClampNeg j)))).heap = H.setIfInBounds a (arrV cO n1 (fun j => va_rf (va_cpy f f1 sp.toNatClampNeg dp.toNatClampNeg n.toNatClampNeg j))) := by rw [← hT]; rfl
  have oq : ∀ x : Nat, x ≠ a → (H.setIfInBounds a (arrV cO n1 (fun j => va_rf (va_cpy f f1 sp.toNatClampNeg dp.toNatClampNeg n.toNatClampNeg j))))[x]? = H[x]? := fun x hx => by simp [Array.getElem?_setIfInBounds, Ne.symm hx]
  obtain ⟨t, a1, b1⟩ := kk _ _ (show (H.setIfInBounds a _)[a]? = some _ by simp [Array.getElem?_setIfInBounds, hl]; rfl) oq (by simp) ⟨by simp; exact hS.1, fun x g1 g2 => by
      rw [oq x (fun e => g2 (by rw [e]; exact hAa))]
      exact hS.2.1 x g1 g2, fun x hx => by
      rcases List.mem_append.mp hx with h | h
      · exact hS.2.2 x h
      · obtain ⟨z, -, hz⟩ := List.mem_map.mp h
        rw [← hz]
        exact hAa⟩ _ hheap X'
  exact ⟨t, step t a1, b1⟩
end KLW
set_option maxHeartbeats 1000000 in
set_option maxRecDepth 100000 in
theorem l_newLen (l : Launch) {D : va_G} {A : Nat → Prop} {cI cO : ClassId} {aE : Nat} {g : Gh} {cap N : Nat → Nat} {rw : Nat → Nat → Option Nat} (τ : St) (o mi pf : Int32) (h1 : ¬ o + (if mi < pf then pf else mi) ≤ 0) (h2 : ¬ (2147483639 : Int32) < o + (if mi < pf then pf else mi)) : Met l yJ8_newLength_cabcc wsJ8_newLength_cabcc ({ frames := 1, cells := 0, slots := 0, locals := 30 }) (va_Pc [.int o, .int mi, .int pf] (qU D cI cO A g cap N rw τ)) (va_Qi (fun r (_ : Unit) => r = o + (if mi < pf then pf else mi)) (fun _ t => qU D cI cO A g cap N rw τ t) A) 0 0 A := by
  refine Met.ofW (cc := cJ8_newLength_cabcc) (maxL := 4) (ret := (some .int)) (by decide) rfl ?_
  intro p e s m args below meth c s₁ B hml hv
  obtain ⟨rfl, ⟨hQ, hK⟩⟩ := hv
  have E : kE p c cJ8_newLength_cabcc s m ([.int o, .int mi, .int pf] : List Value).toArray wsJ8_newLength_cabcc RJ8 D cI cO := ⟨⟨B.exec, B.bytes⟩, atoms_spec (ws := wsJ8_newLength_cabcc) B.pre, findClass_of_methodNamed B.named, hK⟩
  have hx := E.1.1
  have hb := E.1.2
  have hts := E.2.1
  have hr := B.returns
  have hlocks := B.notSynchronized
  have hS : va_S A s.heap s.heap [] := va_S.rf
  have hR : 1 ≤ ((headSpec wsJ8_newLength_cabcc ({ frames := 1, cells := 0, slots := 0, locals := 30 })).room).frames ∧ 30 ≤ ((headSpec wsJ8_newLength_cabcc ({ frames := 1, cells := 0, slots := 0, locals := 30 })).room).locals := ⟨Nat.le_of_ble_eq_true rfl, Nat.le_of_ble_eq_true rfl⟩
  have hfm : 0 ≤ ((headSpec wsJ8_newLength_cabcc ({ frames := 1, cells := 0, slots := 0, locals := 30 })).room).cells ∧ 0 ≤ ((headSpec wsJ8_newLength_cabcc ({ frames := 1, cells := 0, slots := 0, locals := 30 })).room).slots := ⟨Nat.le_refl _, Nat.le_refl _⟩
  have hl := lv_entry ([.int o, .int mi, .int pf]) (n := 4) (Nat.le_of_ble_eq_true rfl)
  rw [lg_entry_eq]
  generalize (lg_sl ([.int o, .int mi, .int pf]) ++ List.replicate (4 - (lg_sl ([.int o, .int mi, .int pf])).length) Slot.unset).toArray = ls at hl ⊢
  generalize (headSpec wsJ8_newLength_cabcc ({ frames := 1, cells := 0, slots := 0, locals := 30 })).room = R at hR hfm ⊢
  refine lv_iload_n hx hb dJ8_newLength_cabcc_0 rfl (lv_at hl 0 rfl) ?_
  refine lv_iload_n hx hb dJ8_newLength_cabcc_1 rfl (lv_at hl 1 rfl) ?_
  refine lv_iload_n hx hb dJ8_newLength_cabcc_2 rfl (lv_at hl 2 rfl) ?_
  refine kmmax E hml hl.1 ⟨by decide +kernel, by decide +kernel, by decide +kernel, by decide +kernel⟩ hR.1 (Nat.le_trans (Nat.le_of_ble_eq_true rfl) hR.2) ⟨Nat.zero_le _, Nat.zero_le _⟩ dJ8_newLength_cabcc_3 ?_
  refine lv_iadd hx hb dJ8_newLength_cabcc_6 ?_
  refine lv_istore_n (lv' := [(3, .int (o + (if mi < pf then pf else mi))), (0, .int o), (1, .int mi), (2, .int pf)]) hx hb dJ8_newLength_cabcc_7 rfl hl (by decide) rfl (fun ls hl => ?_)
  refine lv_iconst (v := 0) hx hb dJ8_newLength_cabcc_8 (by decide) ?_
  refine lv_iload_n hx hb dJ8_newLength_cabcc_9 rfl (lv_at hl 0 rfl) ?_
  refine lv_icmp_ge (tgt := 21) hx hb dJ8_newLength_cabcc_10 (by decide) (fun z => absurd z h1) (fun _ => ?_)
  refine lv_iload_n hx hb dJ8_newLength_cabcc_13 rfl (lv_at hl 0 rfl) ?_
  refine lv_ldc (v := 2147483639) hx hb E.2.2.1 (E.2.1 (.constant RJ8 200 (2147483639)) (by decide +kernel)) dJ8_newLength_cabcc_14 ?_
  refine lv_icmp_gt (tgt := 21) hx hb dJ8_newLength_cabcc_16 (by decide) (fun z => absurd z h2) (fun _ => ?_)
  refine lv_iload_n hx hb dJ8_newLength_cabcc_19 rfl (lv_at hl 0 rfl) ?_
  exact W.iret hx hb hr (fun t ht hW => ⟨⟨_, (), rfl, rfl, by rw [ht]; exact hQ, va_K.moved hW.alike hK⟩, hS.F ht⟩) hS.2.2 dJ8_newLength_cabcc_20
set_option maxHeartbeats 1000000 in
set_option maxRecDepth 100000 in
theorem l_copy2 (l : Launch) {D : va_G} {A : Nat → Prop} {cI cO : ClassId} {aE : Nat} {g : Gh} {cap N : Nat → Nat} {rw : Nat → Nat → Option Nat} (τ : St) (q n' mi : Nat) (hq : lv N cap 2 q) (h1 : cap q ≤ n') (h2 : n' ≤ 65536) (hr0 : ∀ i, cap q ≤ i → rw q i = none) (hel : EL N cap g (rw q)) : Met l yJ7_copyOf_6403c wsJ7_copyOf_6403c ({ frames := 1, cells := 1, slots := n', locals := 40 }) (va_Pc [.ref (g 2 q), .int (nI n'), .ref mi] (fun U => qY D cI cO A aE g cap N rw τ U ∧ va_Mi "[Ljava/lang/Object;" mi U)) (va_Qr (fun (_ : Unit) => True) (fun _ ra t => (∀ k j, lv N cap k j → g k j ≠ ra) ∧ A ra ∧ va_at D vwCl (ra, rE cO n' (rw q)) t.heap ∧ qU D cI cO A g cap N rw τ t) A) 1 n' A := by
  refine Met.ofW (cc := cJ7_copyOf_6403c) (maxL := 4) (ret := (some (.array (.object "java/lang/Object")))) (by decide) rfl ?_
  intro p e s m args below meth c s₁ B hml hv
  obtain ⟨rfl, ⟨⟨⟨hQ, hK⟩, hY⟩, hMi⟩⟩ := hv
  have E : kE p c cJ7_copyOf_6403c s m ([.ref (g 2 q), .int (nI n'), .ref mi] : List Value).toArray wsJ7_copyOf_6403c RJ7 D cI cO := ⟨⟨B.exec, B.bytes⟩, atoms_spec (ws := wsJ7_copyOf_6403c) B.pre, findClass_of_methodNamed B.named, hK⟩
  have hx := E.1.1
  have hb := E.1.2
  have hts := E.2.1
  have hr := B.returns
  have hlocks := B.notSynchronized
  have hS : va_S A s.heap s.heap [] := va_S.rf
  have hR : 1 ≤ ((headSpec wsJ7_copyOf_6403c ({ frames := 1, cells := 1, slots := n', locals := 40 })).room).frames ∧ 40 ≤ ((headSpec wsJ7_copyOf_6403c ({ frames := 1, cells := 1, slots := n', locals := 40 })).room).locals := ⟨Nat.le_of_ble_eq_true rfl, Nat.le_of_ble_eq_true rfl⟩
  have hfm : 1 ≤ ((headSpec wsJ7_copyOf_6403c ({ frames := 1, cells := 1, slots := n', locals := 40 })).room).cells ∧ n' ≤ ((headSpec wsJ7_copyOf_6403c ({ frames := 1, cells := 1, slots := n', locals := 40 })).room).slots := ⟨Nat.le_refl _, Nat.le_refl _⟩
  have hl := lv_entry ([.ref (g 2 q), .int (nI n'), .ref mi]) (n := 4) (Nat.le_of_ble_eq_true rfl)
  rw [lg_entry_eq]
  generalize (lg_sl ([.ref (g 2 q), .int (nI n'), .ref mi]) ++ List.replicate (4 - (lg_sl ([.ref (g 2 q), .int (nI n'), .ref mi])).length) Slot.unset).toArray = ls at hl ⊢
  generalize (headSpec wsJ7_copyOf_6403c ({ frames := 1, cells := 1, slots := n', locals := 40 })).room = R at hR hfm ⊢
  refine lv_aload_n hx hb dJ7_copyOf_6403c_0 rfl (lv_at hl 2 rfl) ?_
  refine va_ldcM hx hb E.2.2.1 (hts (.classLink RJ7 110 "[Ljava/lang/Object;") (by decide +kernel)) hMi dJ7_copyOf_6403c_1 ?_
  refine lv_acmp_ne (rx := some mi) (ry := some mi) (tgt := 13) hx hb dJ7_copyOf_6403c_3 (by decide) (fun z => absurd rfl z) (fun _ => ?_)
  refine lv_iload_n hx hb dJ7_copyOf_6403c_6 rfl (lv_at hl 1 rfl) ?_
  refine lq_new E hQ hS hY.2.2.2.1 hY.2.2.2.2.2.2 (nI_pos (by omega)) (nI_clamp (by omega)) (by omega) (by omega) (by omega) (by decide +kernel) dJ7_copyOf_6403c_7 (fun r H hQ o1 hrt hAr hfr hrs hS => ?_)
  refine W.widen (k := 1) (n := n') (by omega) (by omega) ?_
  refine lv_goto (tgt := 24) hx hb dJ7_copyOf_6403c_10 (by decide) ?_
  refine lv_astore_n (lv' := [(3, .ref r), (0, .ref (g 2 q)), (1, .int (nI n')), (2, .ref mi)]) hx hb dJ7_copyOf_6403c_24 rfl hl (by decide) rfl (fun ls hl => ?_)
  refine lv_aload_n hx hb dJ7_copyOf_6403c_25 rfl (lv_at hl 1 rfl) ?_
  refine lv_iconst (v := 0) hx hb dJ7_copyOf_6403c_26 (by decide) ?_
  refine lv_aload_n hx hb dJ7_copyOf_6403c_27 rfl (lv_at hl 0 rfl) ?_
  refine lv_iconst (v := 0) hx hb dJ7_copyOf_6403c_28 (by decide) ?_
  refine lv_aload_n hx hb dJ7_copyOf_6403c_29 rfl (lv_at hl 1 rfl) ?_
  refine lq_len E hQ hq dJ7_copyOf_6403c_30 ?_
  refine lv_iload_n hx hb dJ7_copyOf_6403c_31 rfl (lv_at hl 2 rfl) ?_
  refine kmmin E hml hl.1 ⟨by decide +kernel, by decide +kernel, by decide +kernel, by decide +kernel⟩ hR.1 (Nat.le_trans (Nat.le_of_ble_eq_true rfl) hR.2) hfm dJ7_copyOf_6403c_32 ?_
  rw [if_neg (nI_nlt h1 (by omega))]
  have hsrc := (hQ.1 2 q hq).1
  rw [cD_2] at hsrc
  refine lq_cpy E (hml.trans hl.1.symm) ⟨by decide +kernel, by decide +kernel, by decide +kernel, by decide +kernel⟩ hsrc hrt hAr hS (by decide) (by decide) (nI_pos (by omega)) (by rw [nI_clamp (by omega)]; exact Nat.le_of_eq (Nat.zero_add _)) (by rw [nI_clamp (by omega)]; show 0 + _ ≤ _; omega) (fun i y h => el_cell E hQ hY.2.2.2.2.2.1 hel i y h) hR.1 (Nat.le_trans (Nat.le_of_ble_eq_true rfl) hR.2) dJ7_copyOf_6403c_35 (fun H1 locs1 hnew oq hsz hS1 => ?_)
  have hQ1 : cQ D cI cO A g cap N rw τ H1 := cQ_kept hQ (fun k j hl => oq _ (hfr k j hl))
  have hnew2 : va_at D vwCl (r, rE cO n' (rw q)) H1 := by
    have e : va_cpy (rw q) (fun _ => none) (0 : Int32).toNatClampNeg (0 : Int32).toNatClampNeg (nI (cap q)).toNatClampNeg = rw q := by
      rw [nI_clamp (by omega)]
      funext i
      show (if 0 ≤ i ∧ i < 0 + cap q then rw q (0 + (i - 0)) else none) = rw q i
      by_cases hi : i < cap q
      · rw [if_pos ⟨Nat.zero_le _, by omega⟩, Nat.zero_add, Nat.sub_zero]
      · rw [if_neg (by omega), hr0 i (by omega)]
    rw [e] at hnew; exact hnew
  refine lv_aload_n hx hb dJ7_copyOf_6403c_38 rfl (lv_at hl 0 rfl) ?_
  exact W.aret (v := .ref r) hx hb hr (Or.inr ⟨_, rfl⟩) (Or.inr ⟨_, rfl⟩) (fun t ht hW => ⟨⟨(), r, rfl, trivial, hfr, hAr, by rw [ht]; exact hnew2, by rw [ht]; exact hQ1, va_K.moved hW.alike hK⟩, hS1.F ht⟩) hS1.2.2 dJ7_copyOf_6403c_39
set_option maxHeartbeats 1000000 in
set_option maxRecDepth 100000 in
theorem l_copy1 (l : Launch) {D : va_G} {A : Nat → Prop} {cI cO : ClassId} {aE : Nat} {g : Gh} {cap N : Nat → Nat} {rw : Nat → Nat → Option Nat} (τ : St) (q n' : Nat) (hq : lv N cap 2 q) (h1 : cap q ≤ n') (h2 : n' ≤ 65536) (hr0 : ∀ i, cap q ≤ i → rw q i = none) (hel : EL N cap g (rw q)) : Met l yJ7_copyOf_1904c wsJ7_copyOf_1904c ({ frames := 2, cells := 1, slots := n', locals := 80 }) (va_Pc [.ref (g 2 q), .int (nI n')] (qY D cI cO A aE g cap N rw τ)) (va_Qr (fun (_ : Unit) => True) (fun _ ra t => (∀ k j, lv N cap k j → g k j ≠ ra) ∧ A ra ∧ va_at D vwCl (ra, rE cO n' (rw q)) t.heap ∧ qU D cI cO A g cap N rw τ t) A) 1 n' A := by
  refine Met.ofW (cc := cJ7_copyOf_1904c) (maxL := 2) (ret := (some (.array (.object "java/lang/Object")))) (by decide) rfl ?_
  intro p e s m args below meth c s₁ B hml hv
  obtain ⟨rfl, ⟨⟨hQ, hK⟩, hY⟩⟩ := hv
  have E : kE p c cJ7_copyOf_1904c s m ([.ref (g 2 q), .int (nI n')] : List Value).toArray wsJ7_copyOf_1904c RJ7 D cI cO := ⟨⟨B.exec, B.bytes⟩, atoms_spec (ws := wsJ7_copyOf_1904c) B.pre, findClass_of_methodNamed B.named, hK⟩
  have hx := E.1.1
  have hb := E.1.2
  have hts := E.2.1
  have hr := B.returns
  have hlocks := B.notSynchronized
  have hS : va_S A s.heap s.heap [] := va_S.rf
  have hR : 2 ≤ ((headSpec wsJ7_copyOf_1904c ({ frames := 2, cells := 1, slots := n', locals := 80 })).room).frames ∧ 80 ≤ ((headSpec wsJ7_copyOf_1904c ({ frames := 2, cells := 1, slots := n', locals := 80 })).room).locals := ⟨Nat.le_of_ble_eq_true rfl, Nat.le_of_ble_eq_true rfl⟩
  have hfm : 1 ≤ ((headSpec wsJ7_copyOf_1904c ({ frames := 2, cells := 1, slots := n', locals := 80 })).room).cells ∧ n' ≤ ((headSpec wsJ7_copyOf_1904c ({ frames := 2, cells := 1, slots := n', locals := 80 })).room).slots := ⟨Nat.le_refl _, Nat.le_refl _⟩
  have hl := lv_entry ([.ref (g 2 q), .int (nI n')]) (n := 2) (Nat.le_of_ble_eq_true rfl)
  rw [lg_entry_eq]
  generalize (lg_sl ([.ref (g 2 q), .int (nI n')]) ++ List.replicate (2 - (lg_sl ([.ref (g 2 q), .int (nI n')])).length) Slot.unset).toArray = ls at hl ⊢
  generalize (headSpec wsJ7_copyOf_1904c ({ frames := 2, cells := 1, slots := n', locals := 80 })).room = R at hR hfm ⊢
  obtain ⟨mi, hMi⟩ := hY.2.2.2.2.1
  refine lv_aload_n hx hb dJ7_copyOf_1904c_0 rfl (lv_at hl 0 rfl) ?_
  refine lv_iload_n hx hb dJ7_copyOf_1904c_1 rfl (lv_at hl 1 rfl) ?_
  refine lv_aload_n hx hb dJ7_copyOf_1904c_2 rfl (lv_at hl 0 rfl) ?_
  have hsrc := (hQ.1 2 q hq).1
  rw [cD_2] at hsrc
  refine va_getC hx hb (hml.trans hl.1.symm) E.2.2.1 (hts _ (by decide +kernel)) ((hY.2.2.2.2.2.1 _ (by decide +kernel)).use rfl) (hts (.selects "[Ljava/lang/Object;" ⟨"java/lang/Object", "getClass", "()Ljava/lang/Class;"⟩ ⟨"java/lang/Object", "getClass", "()Ljava/lang/Class;"⟩) (by decide +kernel)) (hts _ (by decide +kernel)) (hts _ (by decide +kernel)) hMi ⟨_, hsrc, rfl, va_nmO (E.2.2.2.2 1 _ rfl).2 (by decide +kernel)⟩ (Nat.le_trans (Nat.le_of_ble_eq_true rfl) hR.1) (Nat.le_trans (Nat.le_of_ble_eq_true rfl) hR.2) dJ7_copyOf_1904c_3 ?_
  refine kqS_r (As := [.ref (g 2 q), .int (nI n'), .ref mi]) (rest := []) E hml hS qmBl (fun U hU hW => ⟨⟨⟨by rw [hU]; exact hQ, va_K.moved hW.alike hK⟩, cY_at hY hS hU hW⟩, hMi.moved hW.alike⟩) (l_copy2 l (aE := aE) τ q n' mi hq h1 h2 hr0 hel) (va_cwS 3 hts gJ7_copyOf_1904c_J7_copyOf_6403c rfl rfl rfl (by decide +kernel) ⟨Nat.le_trans (Nat.le_of_ble_eq_true rfl) hR.1, Nat.le_trans (Nat.le_of_ble_eq_true rfl) hR.2⟩) rfl hl.1 rfl (Nat.le_of_ble_eq_true rfl) dJ7_copyOf_1904c_6 ⟨by omega, by omega⟩ (fun u ra t H1 locs1 ht hvm hw hB hz hk hS1 => ?_)
  obtain ⟨hfr, hAr, hnew, hQ1, -⟩ := hB
  rw [ht] at hnew hQ1
  refine W.widen (k := 1) (n := n') (by omega) (by omega) ?_
  exact W.aret (v := .ref ra) hx hb hr (Or.inr ⟨_, rfl⟩) (Or.inr ⟨_, rfl⟩) (fun t ht hW => ⟨⟨(), ra, rfl, trivial, hfr, hAr, by rw [ht]; exact hnew, by rw [ht]; exact hQ1, va_K.moved hW.alike hK⟩, hS1.F ht⟩) hS1.2.2 dJ7_copyOf_1904c_9
