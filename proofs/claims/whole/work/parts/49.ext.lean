/-! the world with more objects, in general; a get that leaves one cell alone -/
theorem cP_ext {D : va_G} {cI cO : ClassId} {A : Nat → Prop} {g g' : Gh} {cap cap' N N' : Nat → Nat} {τ : St} {H : Heap} (hP : cP D cI cO A g cap N τ H)
    (hold : ∀ k n, lv N cap k n → g' k n = g k n ∧ cC cI cO g' cap' τ k n = cC cI cO g cap τ k n)
    (hnew : ∀ k n, lv N' cap' k n → ¬ lv N cap k n → va_at D vwCl (g' k n, cC cI cO g' cap' τ k n) H ∧ A (g' k n))
    (hinj : ∀ k n k' n', lv N' cap' k n → ¬ lv N cap k n → lv N' cap' k' n' → g' k n = g' k' n' → k = k' ∧ n = n') : cP D cI cO A g' cap' N' τ H := by
  have dec : ∀ k n, lv N cap k n ∨ ¬ lv N cap k n := fun k n => Classical.em _
  refine ⟨fun k n hl => ?_, fun k n k' n' hl hl' hg => ?_⟩
  · rcases dec k n with h | h
    · obtain ⟨e1, e2⟩ := hold k n h
      rw [e1, e2]; exact hP.1 k n h
    · exact hnew k n hl h
  · rcases dec k n with h | h
    · rcases dec k' n' with h' | h'
      · rw [(hold k n h).1, (hold k' n' h').1] at hg
        exact hP.2 _ _ _ _ h h' hg
      · obtain ⟨a, b⟩ := hinj k' n' k n hl' h' hl hg.symm
        exact ⟨a.symm, b.symm⟩
    · exact hinj k n k' n' hl h hl' hg
section KNR
variable {p : Program} {l : Launch} {e : Env} {R : Room} {s : State} {m : MethodId} {args : Array Value} {below : List Frame} {meth : Method} {c : Code} {H : Heap} {locs : List Loc} {cells slots : Nat} {Q : State → Prop}
variable {cc : ByteArray} {pc : Nat} {ls : Array Slot} {rest : List Value} {D : va_G} {A : Nat → Prop} {Ts : List Cond} {own C : String} {cI cO : ClassId} {g : Gh} {cap N : Nat → Nat} {τ τ' : St}
/-- a call that answers a reference and leaves one cell alone -/
theorem kn_r {y : MethodName} {ws : List Cond} {rm : Room} {bytes : ByteArray} {maxL nL n index r v : Nat} {ret : Option FieldType} {As st0 : List Value} {b : Addr} (E : kE p c cc s m args Ts own D cI cO) (hml : c.maxLocals = nL) (hP : cP D cI cO A g cap N τ H) (hfr : ∀ k n, lv N cap k n → g k n ≠ r) (hrl : r < H.size) (hS : va_S A s.heap H locs) (hrc : ∃ cell : Cell, H[b]? = some cell ∧ cell.vm.isStatics = false ∧ s.vm.findClass C = some cell.cls) (ct : Met l y ws rm (va_Pc (.ref b :: As) (cU D cI cO (fun x => A x ∧ x ≠ r) g cap N τ)) (va_Qr (fun (_ : Unit) => True) (fun _ ra t => ra = v ∧ cU D cI cO (fun x => A x ∧ x ≠ r) g cap N τ' t) (fun x => A x ∧ x ≠ r)) 0 0 (fun x => A x ∧ x ≠ r)) (cw : CallW R s args own C index y bytes maxL ret ws rm 0 0 n) (hn : As.length = n) (hsz : ls.size = nL) (hst : st0 = As.reverse ++ .ref b :: rest) (hW : (rest.map fun v => v.category).sum ≤ 8) (hdg : decode cc pc = .ok (.invokevirtual index, 3)) (hf : cells + 0 ≤ R.cells ∧ slots + 0 ≤ R.slots) (kk : ∀ (H1 : Heap) (locs1 : List Loc), cP D cI cO A g cap N τ' H1 → H1[r]? = H[r]? → H.size ≤ H1.size → va_S A s.heap H1 locs1 → W p l e R s m args below meth c H1 locs1 cells slots Q (F0 m (pc + 3) ls (.ref v :: rest))) : W p l e R s m args below meth c H locs cells slots Q (F0 m pc ls st0) := by
  refine va_callr (va_runV (As := As) (rest := rest) ⟨E.1.1, E.1.2, hml, E.2.2.1, E.2.1⟩ ct cw ⟨cBl, hrc, fun U hU hW => ⟨rfl, by rw [hU]; exact cP_A hP hfr, va_K.moved hW.alike E.2.2.2⟩⟩ rfl hn hsz hst (lv_room hW) hdg hf) hS (fun _ _ q => q.1) (fun _ q => q.1) (fun u ra t H1 locs1 ht hvm hw hB hz hk hS1 => ?_)
  obtain ⟨hra, hB⟩ := hB
  subst hra
  have hB1 := hB.1
  rw [ht] at hB1
  exact kk H1 locs1 (cP_B hB1) (hk r hrl (fun z => z.2 rfl)) hz hS1
end KNR
