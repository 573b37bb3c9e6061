/-! THE LAW: its world, its own rows, the tail of a case -/
def lA (n h : Nat) : Nat → Prop := fun q => n ≤ q ∧ ¬ (h ≤ q ∧ q ≤ h + 44)
theorem cY_sub {A A1 : Nat → Prop} {aE : Nat} {cO : ClassId} {U : State} (h : cY A1 aE cO U) (hs : ∀ q, A q → A1 q) (hb : ∀ a : Nat, U.heap.size ≤ a → A a) : cY A aE cO U := ⟨h.1.narrow hs, h.2.1, fun z => h.2.2.1 (hs _ z), h.2.2.2.1, h.2.2.2.2.1, h.2.2.2.2.2.1, hb⟩
theorem cX_sub {A A1 : Nat → Prop} {U : State} (h : cX A1 U) (hs : ∀ q, A q → A1 q) (hb : ∀ a : Nat, U.heap.size ≤ a → A a) : cX A U := ⟨h.1.narrow hs, h.2.1.narrow hs, h.2.2.1, h.2.2.2.1, hb⟩
/-- what holds of the start all along -/
def lS (D : va_G) (cI cO cZ cJ : ClassId) (aE : Nat) (s : State) : Prop := va_K D vwCl (cT cI cO) s ∧ va_K D vwCl (mT cI cZ) s ∧ va_K D vwCl [(cJ, .long)] s ∧ xnc s ∧ cY (fun q => s.heap.size ≤ q) aE cO s ∧ cX (fun q => s.heap.size ≤ q) s
/-- the law's world: the class's, the reference's, the cell of answers -/
def lW (D : va_G) (cI cO cZ cJ : ClassId) (A : Nat → Prop) (aE h : Nat) (g : Gh) (N : Nat → Nat) (σ : St) (f : Nat → Int64) (μ : St) (H : Heap) : Prop := cG D cI cO A aE g N σ H ∧ va_P D vwCl (mW cI cZ h μ) H ∧ H[h + 44]? = some (vp_cell cJ (1, .inr (.inl f)))
def lR (N : Nat → Nat) (t : Nat) (σ μ : St) : Prop := RF N t σ μ ∧ MI μ ∧ VS σ
theorem lW_wW {D : va_G} {cI cO cZ cJ : ClassId} {aE h : Nat} {g : Gh} {N : Nat → Nat} {σ μ : St} {f : Nat → Int64} {s U : State} {H : Heap} {locs : List Loc} (hs : lS D cI cO cZ cJ aE s) (hS : va_S (fun q => s.heap.size ≤ q) s.heap H locs) (hw : lW D cI cO cZ cJ (lA s.heap.size h) aE h g N σ f μ H) (hh : s.heap.size ≤ h) (hU : U.heap = H) (hW : s.WarmedH U.vm) : wW D cI cO cJ (lA s.heap.size h) aE g N σ (h + 44) f U := by
  obtain ⟨k1, k2, k3, k4, k5, k6⟩ := hs
  have hz : h + 44 < U.heap.size := by rw [hU]; exact (Array.getElem?_eq_some_iff.mp hw.2.2).1
  have hb : ∀ a : Nat, U.heap.size ≤ a → lA s.heap.size h a := fun a ha => ⟨by omega, fun z => by omega⟩
  refine ⟨⟨⟨⟨by rw [hU]; exact hw.1, va_K.moved hW.alike k1⟩, cY_sub (cY_at k5 hS hU hW) (fun q w => w.1) hb⟩, cX_sub (cX_at k6 hS hU hW) (fun q w => w.1) hb⟩, by rw [hU]; exact hw.2.2, va_K.moved hW.alike k3, fun z hz => (k4 z hz).moved hW.alike⟩
theorem mP_kept {D : va_G} {cI cZ : ClassId} {h : Nat} {μ : St} {H H1 : Heap} (k : va_P D vwCl (mW cI cZ h μ) H) (oq : ∀ q : Nat, q < H.size → h ≤ q → q ≤ h + 43 → H1[q]? = H[q]?) : va_P D vwCl (mW cI cZ h μ) H1 := fun i q hq => (k i q hq).kept (oq _ (k i q hq).lt (by have := mW_at hq; omega) (by have := mW_at hq; omega))
def lE (p : Program) (s : State) (m : MethodId) (c : Code) (b L : Nat) (xs : Nat → Int32) : Prop := p.tables.exec = Jvm.exec ∧ c.code = cL_law ∧ c.maxLocals = 9 ∧ s.vm.findClass RL = some m.cls ∧ (∀ w ∈ wsL_law, w.before #[Value.ref b] s = true) ∧ va_X b L xs s s.heap ∧ b < s.heap.size ∧ L ≤ 4096
def bz (z : Int32) : Int32 := if z = 0 then 0 else 1
theorem isB_bz (z : Int32) : isB (bz z) := isB_if isB0 isB1
section LAW
variable {p : Program} {l : Launch} {e : Env} {R : Room} {s : State} {m : MethodId} {args : Array Value} {below : List Frame} {meth : Method} {c : Code} {H : Heap} {locs : List Loc} {cells slots : Nat} {Q : State → Prop}
variable {cc : ByteArray} {pc : Nat} {ls : Array Slot} {rest : List Value} {D : va_G} {cI cO cZ cJ : ClassId} {aE h b L : Nat} {xs : Nat → Int32} {g : Gh} {N : Nat → Nat} {σ μ : St} {f : Nat → Int64}
theorem lv_lcmp (hexec : p.tables.exec = Jvm.exec) (hb : c.code = cc) {x y : Int64} (hdg : decode cc pc = .ok (.lcmp, 1))
    (k : W p l e R s m args below meth c H locs cells slots Q (F0 m (pc + 1) ls (.int (if x > y then 1 else if x == y then 0 else -1) :: rest))) : W p l e R s m args below meth c H locs cells slots Q (F0 m pc ls (.long y :: .long x :: rest)) := by
  intro T hT X
  obtain ⟨t, a, b⟩ := k T hT X
  refine ⟨t, ?_, b⟩
  by_cases h1 : x > y
  · rw [if_pos h1] at a
    jvm_step X.here [X.here.top, hexec, hb, hdg, h1]
    exact a
  · rw [if_neg h1] at a
    by_cases h2 : (x == y) = true
    · rw [if_pos h2] at a
      jvm_step X.here [X.here.top, hexec, hb, hdg, h1]
      rw [if_pos (eq_of_beq h2)]
      exact a
    · rw [if_neg h2] at a
      jvm_step X.here [X.here.top, hexec, hb, hdg, h1]
      rw [if_neg (fun z => h2 (by rw [z]; simp))]
      exact a
theorem l_cmp_eq {x y : Int64} (h : x = y) : (if x > y then (1 : Int32) else if x == y then 0 else -1) = 0 := by
  subst h
  have h1 : ¬ x > x := fun z => by have := Int64.lt_iff_toInt_lt.mp z; omega
  rw [if_neg h1, if_pos (by simp)]
theorem l_arg (C : lE p s m c b L xs) (hS : va_S (fun q => s.heap.size ≤ q) s.heap H locs) {i k : Nat} {n : Int} (hi : i + k < L) (h0 : ls[0]? = some (.val (.ref b))) (h4 : ls[4]? = some (.val (.int (nI i)))) (hn : Int32.ofInt n = nI k) (d0 : decode cL_law pc = .ok (.aload_n 0, 1)) (d1 : decode cL_law (pc + 1) = .ok (.iload 4, 2)) (d2 : decode cL_law (pc + 3) = .ok (.iconst n, 1)) (d3 : decode cL_law (pc + 4) = .ok (.iadd, 1)) (d4 : decode cL_law (pc + 5) = .ok (.iaload, 1))
    (kk : W p l e R s m args below meth c H locs cells slots Q (F0 m (pc + 6) ls (.int (xs (i + k)) :: rest))) : W p l e R s m args below meth c H locs cells slots Q (F0 m pc ls rest) := by
  obtain ⟨hx, hb, hml, hown, hts, hX, hbl, hL⟩ := C
  refine lv_aload_n hx hb d0 rfl h0 ?_
  refine lv_iload hx hb d1 h4 ?_
  refine lv_iconst (v := nI k) hx hb d2 (by rw [← hn]) ?_
  refine lv_iadd hx hb d3 ?_
  rw [nI_add]
  refine va_sld hx hb hX hbl (Nat.not_le.mpr hbl) hS (vp_in_nI hi (by omega)) d4 ?_
  rw [nI_clamp (by omega)]
  exact kk
theorem l_arg8 (C : lE p s m c b L xs) (hS : va_S (fun q => s.heap.size ≤ q) s.heap H locs) {i k : Nat} {n : Int} (hi : i + k < L) (h0 : ls[0]? = some (.val (.ref b))) (h4 : ls[4]? = some (.val (.int (nI i)))) (hn : (Int8.ofInt n).toInt32 = nI k) (d0 : decode cL_law pc = .ok (.aload_n 0, 1)) (d1 : decode cL_law (pc + 1) = .ok (.iload 4, 2)) (d2 : decode cL_law (pc + 3) = .ok (.bipush n, 2)) (d3 : decode cL_law (pc + 5) = .ok (.iadd, 1)) (d4 : decode cL_law (pc + 6) = .ok (.iaload, 1))
    (kk : W p l e R s m args below meth c H locs cells slots Q (F0 m (pc + 7) ls (.int (xs (i + k)) :: rest))) : W p l e R s m args below meth c H locs cells slots Q (F0 m pc ls rest) := by
  obtain ⟨hx, hb, hml, hown, hts, hX, hbl, hL⟩ := C
  refine lv_aload_n hx hb d0 rfl h0 ?_
  refine lv_iload hx hb d1 h4 ?_
  refine lv_bipush (v := nI k) hx hb d2 hn ?_
  refine lv_iadd hx hb d3 ?_
  rw [nI_add]
  refine va_sld hx hb hX hbl (Nat.not_le.mpr hbl) hS (vp_in_nI hi (by omega)) d4 ?_
  rw [nI_clamp (by omega)]
  exact kk
theorem l_bool (C : lE p s m c b L xs) {z : Int32} (d0 : decode cL_law pc = .ok (.ifCond .eq 7, 3)) (d1 : decode cL_law (pc + 3) = .ok (.iconst 1, 1)) (d2 : decode cL_law (pc + 4) = .ok (.goto 4, 3)) (d3 : decode cL_law (pc + 7) = .ok (.iconst 0, 1))
    (kk : W p l e R s m args below meth c H locs cells slots Q (F0 m (pc + 8) ls (.int (bz z) :: rest))) : W p l e R s m args below meth c H locs cells slots Q (F0 m pc ls (.int z :: rest)) := by
  obtain ⟨hx, hb, -⟩ := C
  refine lv_if_eq (tgt := pc + 7) hx hb d0 (by omega) (fun h9 => ?_) (fun h9 => ?_)
  · refine lv_iconst (v := 0) hx hb d3 (by decide) ?_
    have e : bz z = 0 := if_pos h9
    rw [e] at kk
    exact kk
  · refine lv_iconst (v := 1) hx hb d1 (by decide) ?_
    refine lv_goto (tgt := pc + 8) hx hb d2 (by omega) ?_
    have e : bz z = 1 := if_neg h9
    rw [e] at kk
    exact kk
/-- a call of a wrapper -/
theorem vl_calli {S : Type} {mc ms : Nat} {free A0 A1 : Nat → Prop} {H0 : Heap} {a : Array Value} {st0 : List Value} {post : Int32 → S → Prop} {B : S → State → Prop} (hr : vx_Run p l e R s m args below meth c H locs cells slots mc ms (F0 m pc ls st0) rest (va_Qi post B A1 a) (fun _ _ _ => False) free) (hS : va_S A0 H0 H locs) (hA : ∀ q, q < H.size → A1 q → A0 q) (hf : ∀ q, free q → A0 q)
    (kk : ∀ (r : Int32) (u : S) (t : State) (H1 : Heap) (locs1 : List Loc), t.heap = H1 → s.vm.Alike t.vm → post r u → B u t → H.size ≤ H1.size → (∀ q : Nat, q < H.size → ¬ A1 q → H1[q]? = H[q]?) → va_S A0 H0 H1 locs1 → W p l e R s m args below meth c H1 locs1 (cells + mc) (slots + ms) Q (F0 m (pc + 3) ls (.int r :: rest))) : W p l e R s m args below meth c H locs cells slots Q (F0 m pc ls st0) := by
  intro T hT X
  rcases hr T hT X with ⟨v, st₀, t, T', L, h0, X', hL, e1, e2, ⟨⟨r, u, hv, hp, hb⟩, hF⟩, st⟩ | ⟨q, st₀, t, T', L, E, ce, h0, X', hL, e1, e2, hh, hce, hcv, hcl, st⟩
  · cases hv
    obtain ⟨k1, k2, k3⟩ := vx_keep h0 e1 hS hA hf hL hF
    obtain ⟨t2, a1, b1⟩ := kk r u t T'.heap (locs ++ L) e1.symm (by rw [← e2]; exact X'.warmed.alike) hp hb k1 k2 k3 T' rfl X'
    exact ⟨t2, st t2 a1, b1⟩
  · exact hh.elim
def mA (h : Nat) : Nat → Prop := fun q => h ≤ q ∧ q ≤ h + 43
theorem mA_44 {h : Nat} : ∀ i, i < 44 → mA h (h + i) := fun i hi => ⟨by omega, by omega⟩
/-- a call of the reference -/
theorem lm_calli {μ' : St} {y : MethodName} {ws : List Cond} {rm : Room} {bytes : ByteArray} {maxL n index : Nat} {ret : Option FieldType} {As st0 : List Value} {v : Int32} (C : lE p s m c b L xs) (hs : lS D cI cO cZ cJ aE s) (hh : s.heap.size ≤ h) (hw : lW D cI cO cZ cJ (lA s.heap.size h) aE h g N σ f μ H) (hS : va_S (fun q => s.heap.size ≤ q) s.heap H locs) (ct : Met l y ws rm (va_Pc (.ref h :: As) (mU D cI cZ h μ)) (va_Qi (fun r (_ : Unit) => r = v) (fun _ t => mU D cI cZ h μ' t) (mA h)) 0 0 (mA h)) (cw : CallW R s #[Value.ref b] RL RX6 index y bytes maxL ret ws rm 0 0 n) (hn : As.length = n) (hsz : ls.size = 9) (hst : st0 = As.reverse ++ .ref h :: rest) (hW : (rest.map fun v => v.category).sum ≤ 8) (hdg : decode cL_law pc = .ok (.invokevirtual index, 3)) (hf : cells + 0 ≤ R.cells ∧ slots + 0 ≤ R.slots)
    (kk : ∀ (H1 : Heap) (locs1 : List Loc), lW D cI cO cZ cJ (lA s.heap.size h) aE h g N σ f μ' H1 → va_S (fun q => s.heap.size ≤ q) s.heap H1 locs1 → W p l e R s m #[Value.ref b] below meth c H1 locs1 cells slots Q (F0 m (pc + 3) ls (.int v :: rest))) : W p l e R s m #[Value.ref b] below meth c H locs cells slots Q (F0 m pc ls st0) := by
  obtain ⟨hx, hb, hml, hown, hts, hX, hbl, hL⟩ := C
  obtain ⟨k1, k2, k3⟩ := hw
  refine va_calli (va_runV (As := As) (rest := rest) ⟨hx, hb, hml, hown, hts⟩ ct cw ⟨mBl, va_recv hs.2.1 k2 (ci := 9) (q0 := 0) rfl rfl, fun U hU hW => ⟨rfl, by rw [hU]; exact k2, va_K.moved hW.alike hs.2.1⟩⟩ rfl hn hsz hst (lv_room hW) hdg hf) hS (fun q _ w => Nat.le_trans hh w.1) (fun q w => Nat.le_trans hh w.1) (fun r u t H1 locs1 ht hvm hw hB hz hk hS1 => ?_)
  subst hw
  refine kk H1 locs1 ⟨cG_kept k1 (fun q hq hA => hk q hq (fun z => hA.2 ⟨z.1, by have := z.2; omega⟩)), by rw [← ht]; exact hB.1, (hk _ (Array.getElem?_eq_some_iff.mp k3).1 (fun z => by have := z.2; omega)).trans k3⟩ hS1
theorem lm_calld {μ' : St} {y : MethodName} {ws : List Cond} {rm : Room} {bytes : ByteArray} {maxL n index : Nat} {ret : Option FieldType} {As st0 : List Value} {v : UInt64} (C : lE p s m c b L xs) (hs : lS D cI cO cZ cJ aE s) (hh : s.heap.size ≤ h) (hw : lW D cI cO cZ cJ (lA s.heap.size h) aE h g N σ f μ H) (hS : va_S (fun q => s.heap.size ≤ q) s.heap H locs) (ct : Met l y ws rm (va_Pc (.ref h :: As) (mU D cI cZ h μ)) (va_Qd (fun r (_ : Unit) => r = v) (fun _ t => mU D cI cZ h μ' t) (mA h)) 0 0 (mA h)) (cw : CallW R s #[Value.ref b] RL RX6 index y bytes maxL ret ws rm 0 0 n) (hn : As.length = n) (hsz : ls.size = 9) (hst : st0 = As.reverse ++ .ref h :: rest) (hW : (rest.map fun v => v.category).sum ≤ 8) (hdg : decode cL_law pc = .ok (.invokevirtual index, 3)) (hf : cells + 0 ≤ R.cells ∧ slots + 0 ≤ R.slots)
    (kk : ∀ (H1 : Heap) (locs1 : List Loc), lW D cI cO cZ cJ (lA s.heap.size h) aE h g N σ f μ' H1 → va_S (fun q => s.heap.size ≤ q) s.heap H1 locs1 → W p l e R s m #[Value.ref b] below meth c H1 locs1 cells slots Q (F0 m (pc + 3) ls (.double v :: rest))) : W p l e R s m #[Value.ref b] below meth c H locs cells slots Q (F0 m pc ls st0) := by
  obtain ⟨hx, hb, hml, hown, hts, hX, hbl, hL⟩ := C
  obtain ⟨k1, k2, k3⟩ := hw
  refine va_calld (va_runV (As := As) (rest := rest) ⟨hx, hb, hml, hown, hts⟩ ct cw ⟨mBl, va_recv hs.2.1 k2 (ci := 9) (q0 := 0) rfl rfl, fun U hU hW => ⟨rfl, by rw [hU]; exact k2, va_K.moved hW.alike hs.2.1⟩⟩ rfl hn hsz hst (lv_room hW) hdg hf) hS (fun q _ w => Nat.le_trans hh w.1) (fun q w => Nat.le_trans hh w.1) (fun r u t H1 locs1 ht hvm hw hB hz hk hS1 => ?_)
  subst hw
  refine kk H1 locs1 ⟨cG_kept k1 (fun q hq hA => hk q hq (fun z => hA.2 ⟨z.1, by have := z.2; omega⟩)), by rw [← ht]; exact hB.1, (hk _ (Array.getElem?_eq_some_iff.mp k3).1 (fun z => by have := z.2; omega)).trans k3⟩ hS1
/-- what a wrapper leaves, in the law's world -/
theorem lW_wB {u : (Gh × (Nat → Nat) × St) × (Nat → Int64)} {t : State} {H1 : Heap} (hw : lW D cI cO cZ cJ (lA s.heap.size h) aE h g N σ f μ H) (ht : t.heap = H1) (hB : wB D cI cO cJ (lA s.heap.size h) aE (h + 44) u t) (hk : ∀ q : Nat, q < H.size → ¬ (lA s.heap.size h q ∨ q = h + 44) → H1[q]? = H[q]?) : lW D cI cO cZ cJ (lA s.heap.size h) aE h u.1.1 u.1.2.1 u.1.2.2 u.2 μ H1 := by
  refine ⟨by rw [← ht]; exact hB.1.1, mP_kept hw.2.1 (fun q hq h1 h2 => hk q hq (fun z => ?_)), by rw [← ht]; exact hB.2⟩
  rcases z with z | z
  · exact z.2 ⟨h1, by omega⟩
  · omega
/-- the last instructions of a case -/
theorem l_tail {T0 : Nat} {i : Nat} {k v : Int32} {off : Int} (C : lE p s m c b L xs) (hs : lS D cI cO cZ cJ aE s) (hh : s.heap.size ≤ h) (hw : lW D cI cO cZ cJ (lA s.heap.size h) aE h g N σ f μ H) (hS : va_S (fun q => s.heap.size ≤ q) s.heap H locs) {q0 : Nat} (hl : lv_has ls 9 [(5, .int k), (0, .ref b), (1, .ref q0), (2, .ref h), (3, .ref (h + 44)), (4, .int (nI i))])
    (hk : μ 0 0 = k) (hv : k = 0 → f 0 = v.toInt64) (hfc : cells + 0 ≤ room_1.cells ∧ slots + 0 ≤ room_1.slots)
    (d0 : decode cL_law T0 = .ok (.istore 6, 2)) (d1 : decode cL_law (T0 + 2) = .ok (.aload_n 2, 1)) (d2 : decode cL_law (T0 + 3) = .ok (.invokevirtual 81, 3)) (d3 : decode cL_law (T0 + 6) = .ok (.iload 5, 2)) (d4 : decode cL_law (T0 + 8) = .ok (.if_icmp .eq 5, 3)) (d5 : decode cL_law (T0 + 13) = .ok (.iload 5, 2)) (d6 : decode cL_law (T0 + 15) = .ok (.ifCond .ne 15, 3)) (d7 : decode cL_law (T0 + 18) = .ok (.aload_n 3, 1)) (d8 : decode cL_law (T0 + 19) = .ok (.iconst 0, 1)) (d9 : decode cL_law (T0 + 20) = .ok (.laload, 1)) (da : decode cL_law (T0 + 21) = .ok (.iload 6, 2)) (db : decode cL_law (T0 + 23) = .ok (.i2l, 1)) (dc : decode cL_law (T0 + 24) = .ok (.lcmp, 1)) (dd : decode cL_law (T0 + 25) = .ok (.ifCond .eq 5, 3)) (de : decode cL_law (T0 + 30) = .ok (.goto off, 3)) (ho : ((T0 + 30 : Nat) : Int) + off = (1535 : Nat))
    (kk : ∀ (H1 : Heap) (locs1 : List Loc) (ls1 : Array Slot), lW D cI cO cZ cJ (lA s.heap.size h) aE h g N σ f μ H1 → va_S (fun q => s.heap.size ≤ q) s.heap H1 locs1 → lv_has ls1 9 [(0, .ref b), (1, .ref q0), (2, .ref h), (3, .ref (h + 44)), (4, .int (nI i))] → W p l e room_1 s m #[Value.ref b] below meth c H1 locs1 cells slots Q (F0 m 1535 ls1 [])) : W p l e room_1 s m #[Value.ref b] below meth c H locs cells slots Q (F0 m T0 ls [.int v]) := by
  obtain ⟨hx, hb, hml, hown, hts, hX, hbl, hL⟩ := id C
  refine lv_istore (lv' := [(6, .int v), (5, .int k), (0, .ref b), (1, .ref q0), (2, .ref h), (3, .ref (h + 44)), (4, .int (nI i))]) hx hb d0 hl (by decide) rfl (fun ls hl => ?_)
  refine lv_aload_n hx hb d1 rfl (lv_at hl 4 rfl) ?_
  refine lm_calli C hs hh hw hS (As := []) (rest := []) (c_thrown l mA_44 μ) (cwV 0 hts gL_law_X6_thrown rfl rfl rfl (by decide +kernel) ⟨Nat.le_of_ble_eq_true rfl, Nat.le_of_ble_eq_true rfl⟩) rfl hl.1 rfl (Nat.le_of_ble_eq_true rfl) d2 hfc (fun H locs hw hS => ?_)
  refine lv_iload hx hb d3 (lv_at hl 1 rfl) ?_
  refine lv_icmp_eq (tgt := T0 + 13) hx hb d4 (by omega) (fun h9 => ?_) (fun h9 => absurd (by unfold q_thrown; exact hk) h9)
  refine lv_iload hx hb d5 (lv_at hl 1 rfl) ?_
  have fin : ∀ (H1 : Heap) (locs1 : List Loc), lW D cI cO cZ cJ (lA s.heap.size h) aE h g N σ f μ H1 → va_S (fun q => s.heap.size ≤ q) s.heap H1 locs1 → W p l e room_1 s m #[Value.ref b] below meth c H1 locs1 cells slots Q (F0 m (T0 + 30) ls []) := fun H1 locs1 hw hS => by
    refine lv_goto (tgt := 1535) hx hb de ho ?_
    exact kk _ _ _ hw hS (lv_sub hl [2, 3, 4, 5, 6] rfl)
  refine lv_if_ne (tgt := T0 + 30) hx hb d6 (by omega) (fun h9 => fin _ _ hw hS) (fun h9 => ?_)
  have hk0 : k = 0 := h9
  refine lv_aload_n hx hb d7 rfl (lv_at hl 5 rfl) ?_
  refine lv_iconst (v := 0) hx hb d8 (by decide) ?_
  refine va_lald (D := D) (cl := vwCl) (ws := [(h + 44, .inl (cJ, 1, .inr (.inl f)))]) (tys := [(cJ, .long)]) hx hb hs.2.2.1 (fun i q hq => ?_) 0 0 rfl rfl (show ¬ ((0 : Int32) < 0 ∨ 1 ≤ (0 : Int32).toNatClampNeg) by decide) d9 ?_
  · match i, hq with
    | 0, hq => cases hq; exact hw.2.2
    | i + 1, hq => simp at hq
  refine lv_iload hx hb da (lv_at hl 0 rfl) ?_
  refine lv_i2l (v := v.toInt64) hx hb db rfl ?_
  refine lv_lcmp hx hb dc ?_
  have e0 : f (0 : Int32).toNatClampNeg = v.toInt64 := hv hk0
  rw [l_cmp_eq e0]
  exact lv_if_eq (tgt := T0 + 30) hx hb dd (by omega) (fun h9 => fin _ _ hw hS) (fun h9 => absurd rfl h9)
end LAW
