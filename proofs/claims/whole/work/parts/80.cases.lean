/-! THE LAW: its cases, from the switch to the loop's end -/
theorem cn8_le {N : Nat → Nat} (h : KN N) (σ : St) : cn8 N σ ≤ 100 := by
  unfold cn8
  refine Nat.le_trans List.countP_le_length ?_
  rw [List.length_range]
  exact h.2.2.2.2.1
theorem lA_foot {n h q : Nat} (hh : n ≤ h) (z : lA n h q ∨ q = h + 44) : n ≤ q := by
  rcases z with z | z
  · exact z.1
  · omega
/-- what a case goes on with -/
def lNx (p : Program) (l : Launch) (e : Env) (s : State) (m : MethodId) (below : List Frame) (meth : Method) (c : Code) (Q : State → Prop) (D : va_G) (cI cO cZ cJ : ClassId) (aE h b j q0 : Nat) : Prop := ∀ (g : Gh) (N : Nat → Nat) (σ μ : St) (f : Nat → Int64) (t : Nat) (H : Heap) (locs : List Loc) (ls : Array Slot), g 0 0 = q0 → t ≤ 1500 * (j + 1) → lW D cI cO cZ cJ (lA s.heap.size h) aE h g N σ f μ H → lR N t σ μ → va_S (fun q => s.heap.size ≤ q) s.heap H locs → lv_has ls 9 [(0, .ref b), (1, .ref q0), (2, .ref h), (3, .ref (h + 44)), (4, .int (nI (8 * j)))] → W p l e room_1 s m #[Value.ref b] below meth c H locs (60 + 20 * (j + 1) + 2 * cn8 N σ) (4000 + 300 * (j + 1) + 300 * cn8 N σ) Q (F0 m 1535 ls [])
section CASES
variable {p : Program} {l : Launch} {e : Env} {s : State} {m : MethodId} {below : List Frame} {meth : Method} {c : Code} {H : Heap} {locs : List Loc} {cells slots : Nat} {Q : State → Prop}
variable {ls : Array Slot} {D : va_G} {cI cO cZ cJ : ClassId} {aE h b L j t : Nat} {xs : Nat → Int32} {g : Gh} {N : Nat → Nat} {σ μ : St} {f : Nat → Int64}
theorem l_tailB {T0 : Nat} {i : Nat} {k v : Int32} {off : Int} (C : lE p s m c b L xs) (hs : lS D cI cO cZ cJ aE s) (hh : s.heap.size ≤ h) (hw : lW D cI cO cZ cJ (lA s.heap.size h) aE h g N σ f μ H) (hS : va_S (fun q => s.heap.size ≤ q) s.heap H locs) {q0 : Nat} (hl : lv_has ls 9 [(5, .int k), (0, .ref b), (1, .ref q0), (2, .ref h), (3, .ref (h + 44)), (4, .int (nI i))])
    (hk : μ 0 0 = k) (hv : k = 0 → f 0 = (if v = 0 then (0 : Int64) else 1)) (hfc : cells + 0 ≤ room_1.cells ∧ slots + 0 ≤ room_1.slots)
    (d0 : decode cL_law T0 = .ok (.istore 6, 2)) (d1 : decode cL_law (T0 + 2) = .ok (.aload_n 2, 1)) (d2 : decode cL_law (T0 + 3) = .ok (.invokevirtual 81, 3)) (d3 : decode cL_law (T0 + 6) = .ok (.iload 5, 2)) (d4 : decode cL_law (T0 + 8) = .ok (.if_icmp .eq 5, 3)) (d5 : decode cL_law (T0 + 13) = .ok (.iload 5, 2)) (d6 : decode cL_law (T0 + 15) = .ok (.ifCond .ne 22, 3)) (d7 : decode cL_law (T0 + 18) = .ok (.aload_n 3, 1)) (d8 : decode cL_law (T0 + 19) = .ok (.iconst 0, 1)) (d9 : decode cL_law (T0 + 20) = .ok (.laload, 1)) (da : decode cL_law (T0 + 21) = .ok (.iload 6, 2)) (db : decode cL_law (T0 + 23) = .ok (.ifCond .eq 7, 3)) (dx : decode cL_law (T0 + 26) = .ok (.lconst 1, 1)) (dy : decode cL_law (T0 + 27) = .ok (.goto 4, 3)) (dz : decode cL_law (T0 + 30) = .ok (.lconst 0, 1)) (dc : decode cL_law (T0 + 31) = .ok (.lcmp, 1)) (dd : decode cL_law (T0 + 32) = .ok (.ifCond .eq 5, 3)) (de : decode cL_law (T0 + 37) = .ok (.goto off, 3)) (ho : ((T0 + 37 : Nat) : Int) + off = (1535 : Nat))
    (kk : ∀ (H1 : Heap) (locs1 : List Loc) (ls1 : Array Slot), lW D cI cO cZ cJ (lA s.heap.size h) aE h g N σ f μ H1 → va_S (fun q => s.heap.size ≤ q) s.heap H1 locs1 → lv_has ls1 9 [(0, .ref b), (1, .ref q0), (2, .ref h), (3, .ref (h + 44)), (4, .int (nI i))] → W p l e room_1 s m #[Value.ref b] below meth c H1 locs1 cells slots Q (F0 m 1535 ls1 [])) : W p l e room_1 s m #[Value.ref b] below meth c H locs cells slots Q (F0 m T0 ls [.int v]) := by
  obtain ⟨hx, hb, hml, hown, hts, hX, hbl, hL⟩ := id C
  refine lv_istore (lv' := [(6, .int v), (5, .int k), (0, .ref b), (1, .ref q0), (2, .ref h), (3, .ref (h + 44)), (4, .int (nI i))]) hx hb d0 hl (by decide) rfl (fun ls hl => ?_)
  refine lv_aload_n hx hb d1 rfl (lv_at hl 4 rfl) ?_
  refine lm_calli C hs hh hw hS (As := []) (rest := []) (c_thrown l mA_44 μ) (cwV 0 hts gL_law_X6_thrown rfl rfl rfl (by decide +kernel) ⟨Nat.le_of_ble_eq_true rfl, Nat.le_of_ble_eq_true rfl⟩) rfl hl.1 rfl (Nat.le_of_ble_eq_true rfl) d2 hfc (fun H locs hw hS => ?_)
  refine lv_iload hx hb d3 (lv_at hl 1 rfl) ?_
  refine lv_icmp_eq (tgt := T0 + 13) hx hb d4 (by omega) (fun h9 => ?_) (fun h9 => absurd (by unfold q_thrown; exact hk) h9)
  refine lv_iload hx hb d5 (lv_at hl 1 rfl) ?_
  have fin : ∀ (H1 : Heap) (locs1 : List Loc), lW D cI cO cZ cJ (lA s.heap.size h) aE h g N σ f μ H1 → va_S (fun q => s.heap.size ≤ q) s.heap H1 locs1 → W p l e room_1 s m #[Value.ref b] below meth c H1 locs1 cells slots Q (F0 m (T0 + 37) ls []) := fun H1 locs1 hw hS => by
    refine lv_goto (tgt := 1535) hx hb de ho ?_
    exact kk _ _ _ hw hS (lv_sub hl [2, 3, 4, 5, 6] rfl)
  refine lv_if_ne (tgt := T0 + 37) hx hb d6 (by omega) (fun h9 => fin _ _ hw hS) (fun h9 => ?_)
  have hk0 : k = 0 := h9
  refine lv_aload_n hx hb d7 rfl (lv_at hl 5 rfl) ?_
  refine lv_iconst (v := 0) hx hb d8 (by decide) ?_
  refine va_lald (D := D) (cl := vwCl) (ws := [(h + 44, .inl (cJ, 1, .inr (.inl f)))]) (tys := [(cJ, .long)]) hx hb hs.2.2.1 (fun i q hq => ?_) 0 0 rfl rfl (show ¬ ((0 : Int32) < 0 ∨ 1 ≤ (0 : Int32).toNatClampNeg) by decide) d9 ?_
  · match i, hq with
    | 0, hq => cases hq; exact hw.2.2
    | i + 1, hq => simp at hq
  refine lv_iload hx hb da (lv_at hl 0 rfl) ?_
  have e0 : f (0 : Int32).toNatClampNeg = (if v = 0 then (0 : Int64) else 1) := hv hk0
  have fin2 : ∀ w : Int64, f (0 : Int32).toNatClampNeg = w → W p l e room_1 s m #[Value.ref b] below meth c H locs cells slots Q (F0 m (T0 + 31) ls [.long w, .long (f (0 : Int32).toNatClampNeg)]) := fun w ew => by
    refine lv_lcmp hx hb dc ?_
    rw [l_cmp_eq ew]
    exact lv_if_eq (tgt := T0 + 37) hx hb dd (by omega) (fun h9 => fin _ _ hw hS) (fun h9 => absurd rfl h9)
  refine lv_if_eq (tgt := T0 + 30) hx hb db (by omega) (fun h8 => ?_) (fun h8 => ?_)
  · refine lv_lconst (v := 0) hx hb dz rfl ?_
    exact fin2 0 (e0.trans (if_pos h8))
  · refine lv_lconst (v := 1) hx hb dx rfl ?_
    refine lv_goto (tgt := T0 + 31) hx hb dy (by omega) ?_
    exact fin2 1 (e0.trans (if_neg h8))
/-- a call of the class that changes nothing -/
theorem lc_calli {y : MethodName} {ws : List Cond} {rm : Room} {bytes : ByteArray} {maxL n index : Nat} {ret : Option FieldType} {As st0 rest : List Value} {v : Int32} {ga cap : Nat → Nat} {R : Room} {pc : Nat} (C : lE p s m c b L xs) (hs : lS D cI cO cZ cJ aE s) (hh : s.heap.size ≤ h) (hw : lW D cI cO cZ cJ (lA s.heap.size h) aE h g N σ f μ H) (hgi : GI aE N cap ga) (hki : KI cap N σ) (hcp : cP D cI cO (lA s.heap.size h) (gw g ga) cap N σ H) (hS : va_S (fun q => s.heap.size ≤ q) s.heap H locs) (ct : Met l y ws rm (va_Pc (.ref (gw g ga 0 0) :: As) (cU D cI cO (lA s.heap.size h) (gw g ga) cap N σ)) (va_Qi (fun r (_ : Unit) => r = v) (fun _ t => cU D cI cO (lA s.heap.size h) (gw g ga) cap N σ t) (lA s.heap.size h)) 0 0 (lA s.heap.size h)) (cw : CallW R s #[Value.ref b] RL RX5 index y bytes maxL ret ws rm 0 0 n) (hn : As.length = n) (hsz : ls.size = 9) (hst : st0 = As.reverse ++ .ref (g 0 0) :: rest) (hW : (rest.map fun v => v.category).sum ≤ 8) (hdg : decode cL_law pc = .ok (.invokevirtual index, 3)) (hf : cells + 0 ≤ R.cells ∧ slots + 0 ≤ R.slots)
    (kk : ∀ (H1 : Heap) (locs1 : List Loc), lW D cI cO cZ cJ (lA s.heap.size h) aE h g N σ f μ H1 → va_S (fun q => s.heap.size ≤ q) s.heap H1 locs1 → W p l e R s m #[Value.ref b] below meth c H1 locs1 cells slots Q (F0 m (pc + 3) ls (.int v :: rest))) : W p l e R s m #[Value.ref b] below meth c H locs cells slots Q (F0 m pc ls st0) := by
  obtain ⟨hx, hb, hml, hown, hts, hX, hbl, hL⟩ := C
  obtain ⟨k1, k2, k3⟩ := hw
  have hN := hki.1
  refine va_calli (va_runV (As := As) (rest := rest) ⟨hx, hb, hml, hown, hts⟩ ct cw ⟨cBl, kr_0 (g := gw g ga) hs.1 hcp ⟨by decide, by have := hN.1; omega, fun z => absurd z (by decide)⟩, fun U hU hW => ⟨rfl, by rw [hU]; exact hcp, va_K.moved hW.alike hs.1⟩⟩ rfl hn hsz hst (lv_room hW) hdg hf) hS (fun q _ w => w.1) (fun q w => w.1) (fun r u t H1 locs1 ht hvm hw hB hz hk hS1 => ?_)
  subst hw
  exact kk H1 locs1 ⟨⟨ga, cap, hgi, hki, by rw [← ht]; exact hB.1⟩, mP_kept k2 (fun q hq h1 h2 => hk q hq (fun z => z.2 ⟨h1, by omega⟩)), (hk _ (Array.getElem?_eq_some_iff.mp k3).1 (fun z => z.2 ⟨by omega, by omega⟩)).trans k3⟩ hS1
/-- a call of the class that changes nothing -/
theorem lc_calld {y : MethodName} {ws : List Cond} {rm : Room} {bytes : ByteArray} {maxL n index : Nat} {ret : Option FieldType} {As st0 rest : List Value} {v : UInt64} {ga cap : Nat → Nat} {R : Room} {pc : Nat} (C : lE p s m c b L xs) (hs : lS D cI cO cZ cJ aE s) (hh : s.heap.size ≤ h) (hw : lW D cI cO cZ cJ (lA s.heap.size h) aE h g N σ f μ H) (hgi : GI aE N cap ga) (hki : KI cap N σ) (hcp : cP D cI cO (lA s.heap.size h) (gw g ga) cap N σ H) (hS : va_S (fun q => s.heap.size ≤ q) s.heap H locs) (ct : Met l y ws rm (va_Pc (.ref (gw g ga 0 0) :: As) (cU D cI cO (lA s.heap.size h) (gw g ga) cap N σ)) (va_Qd (fun r (_ : Unit) => r = v) (fun _ t => cU D cI cO (lA s.heap.size h) (gw g ga) cap N σ t) (lA s.heap.size h)) 0 0 (lA s.heap.size h)) (cw : CallW R s #[Value.ref b] RL RX5 index y bytes maxL ret ws rm 0 0 n) (hn : As.length = n) (hsz : ls.size = 9) (hst : st0 = As.reverse ++ .ref (g 0 0) :: rest) (hW : (rest.map fun v => v.category).sum ≤ 8) (hdg : decode cL_law pc = .ok (.invokevirtual index, 3)) (hf : cells + 0 ≤ R.cells ∧ slots + 0 ≤ R.slots)
    (kk : ∀ (H1 : Heap) (locs1 : List Loc), lW D cI cO cZ cJ (lA s.heap.size h) aE h g N σ f μ H1 → va_S (fun q => s.heap.size ≤ q) s.heap H1 locs1 → W p l e R s m #[Value.ref b] below meth c H1 locs1 cells slots Q (F0 m (pc + 3) ls (.double v :: rest))) : W p l e R s m #[Value.ref b] below meth c H locs cells slots Q (F0 m pc ls st0) := by
  obtain ⟨hx, hb, hml, hown, hts, hX, hbl, hL⟩ := C
  obtain ⟨k1, k2, k3⟩ := hw
  have hN := hki.1
  refine va_calld (va_runV (As := As) (rest := rest) ⟨hx, hb, hml, hown, hts⟩ ct cw ⟨cBl, kr_0 (g := gw g ga) hs.1 hcp ⟨by decide, by have := hN.1; omega, fun z => absurd z (by decide)⟩, fun U hU hW => ⟨rfl, by rw [hU]; exact hcp, va_K.moved hW.alike hs.1⟩⟩ rfl hn hsz hst (lv_room hW) hdg hf) hS (fun q _ w => w.1) (fun q w => w.1) (fun r u t H1 locs1 ht hvm hw hB hz hk hS1 => ?_)
  subst hw
  exact kk H1 locs1 ⟨⟨ga, cap, hgi, hki, by rw [← ht]; exact hB.1⟩, mP_kept k2 (fun q hq h1 h2 => hk q hq (fun z => z.2 ⟨h1, by omega⟩)), (hk _ (Array.getElem?_eq_some_iff.mp k3).1 (fun z => z.2 ⟨by omega, by omega⟩)).trans k3⟩ hS1
set_option maxHeartbeats 4000000 in
set_option maxRecDepth 100000 in
theorem law_pier (hst : l.stackTraces = false) (C : lE p s m c b L xs) (hs : lS D cI cO cZ cJ aE s) (hh : s.heap.size ≤ h) (hj : 8 * j + 8 ≤ L) (ht : t ≤ 1500 * j) (hw : lW D cI cO cZ cJ (lA s.heap.size h) aE h g N σ f μ H) (hR : lR N t σ μ) (hS : va_S (fun q => s.heap.size ≤ q) s.heap H locs) (hl : lv_has ls 9 [(0, .ref b), (1, .ref (g 0 0)), (2, .ref h), (3, .ref (h + 44)), (4, .int (nI (8 * j)))]) (kk : lNx p l e s m below meth c Q D cI cO cZ cJ aE h b j (g 0 0)) : W p l e room_1 s m #[Value.ref b] below meth c H locs (60 + 20 * j + 2 * cn8 N σ) (4000 + 300 * j + 300 * cn8 N σ) Q (F0 m 128 ls []) := by
  obtain ⟨hx, hb, hml, hown, hts, hX, hbl, hL⟩ := id C
  obtain ⟨ga, cap, hgi, hki, hcp⟩ := id hw.1
  have hN := hki.1
  have hc8 := cn8_le hN σ
  refine lv_aload_n hx hb dL_law_128 rfl (lv_at hl 1 rfl) ?_
  refine l_arg C hS (i := 8 * j) (k := 1) (by omega) (lv_at hl 0 rfl) (lv_at hl 4 rfl) (by decide) dL_law_129 dL_law_130 dL_law_132 dL_law_133 dL_law_134 ?_
  refine l_arg C hS (i := 8 * j) (k := 2) (by omega) (lv_at hl 0 rfl) (lv_at hl 4 rfl) (by decide) dL_law_135 dL_law_136 dL_law_138 dL_law_139 dL_law_140 ?_
  refine l_arg C hS (i := 8 * j) (k := 3) (by omega) (lv_at hl 0 rfl) (lv_at hl 4 rfl) (by decide) dL_law_141 dL_law_142 dL_law_144 dL_law_145 dL_law_146 ?_
  refine l_arg C hS (i := 8 * j) (k := 4) (by omega) (lv_at hl 0 rfl) (lv_at hl 4 rfl) (by decide) dL_law_147 dL_law_148 dL_law_150 dL_law_151 dL_law_152 ?_
  refine l_bool C dL_law_153 dL_law_156 dL_law_157 dL_law_160 ?_
  refine lv_aload_n hx hb dL_law_161 rfl (lv_at hl 3 rfl) ?_
  refine vl_calli (vx_runSX (As := [.ref (g 0 0), .int (xs (8 * j + 1)), .int (xs (8 * j + 2)), .int (xs (8 * j + 3)), .int (bz (xs (8 * j + 4))), .ref (h + 44)]) (rest := []) ⟨hx, hb, hml, hown, hts⟩ (x_pier l hst (D := D) (A := lA s.heap.size h) (cI := cI) (cO := cO) (cJ := cJ) (aE := aE) (o := h + 44) (g := g) (N := N) σ f (xs (8 * j + 1)) (xs (8 * j + 2)) (xs (8 * j + 3)) (bz (xs (8 * j + 4))) (isB_bz _) (fun z => z.2 ⟨by omega, by omega⟩)) (vx_cwSW 6 hts gL_law_L_pier rfl rfl rfl (by decide +kernel) ⟨Nat.le_of_ble_eq_true rfl, Nat.le_of_ble_eq_true rfl⟩) ⟨wBl, fun U hU hW => ⟨rfl, lW_wW hs hS hw hh hU hW⟩⟩ rfl rfl hl.1 rfl (lv_room (Nat.le_of_ble_eq_true rfl)) dL_law_162 ⟨show _ ≤ 601024 by omega, show _ ≤ 7293034 by omega⟩) hS (fun q _ z => lA_foot hh z) (fun q z => lA_foot hh z) (fun k u t9 H locs ht9 hvm hp hB hz hk hS => ?_)
  have hw := lW_wB hw ht9 hB hk
  obtain ⟨e1, e2, ⟨t', ht', hR'⟩, hg', hc'⟩ := key_pier (xs (8 * j + 1)) (xs (8 * j + 2)) (xs (8 * j + 3)) (bz (xs (8 * j + 4))) (isB_bz _) hN hR hp
  refine lv_istore (lv' := [(5, .int k), (0, .ref b), (1, .ref (g 0 0)), (2, .ref h), (3, .ref (h + 44)), (4, .int (nI (8 * j)))]) hx hb dL_law_165 hl (by decide) rfl (fun ls hl => ?_)
  refine lv_aload_n hx hb dL_law_167 rfl (lv_at hl 3 rfl) ?_
  refine l_arg C hS (i := 8 * j) (k := 1) (by omega) (lv_at hl 1 rfl) (lv_at hl 5 rfl) (by decide) dL_law_168 dL_law_169 dL_law_171 dL_law_172 dL_law_173 ?_
  refine l_arg C hS (i := 8 * j) (k := 2) (by omega) (lv_at hl 1 rfl) (lv_at hl 5 rfl) (by decide) dL_law_174 dL_law_175 dL_law_177 dL_law_178 dL_law_179 ?_
  refine l_arg C hS (i := 8 * j) (k := 3) (by omega) (lv_at hl 1 rfl) (lv_at hl 5 rfl) (by decide) dL_law_180 dL_law_181 dL_law_183 dL_law_184 dL_law_185 ?_
  refine l_arg C hS (i := 8 * j) (k := 4) (by omega) (lv_at hl 1 rfl) (lv_at hl 5 rfl) (by decide) dL_law_186 dL_law_187 dL_law_189 dL_law_190 dL_law_191 ?_
  refine l_bool C dL_law_192 dL_law_195 dL_law_196 dL_law_199 ?_
  refine lm_calli C hs hh hw hS (As := [.int (xs (8 * j + 1)), .int (xs (8 * j + 2)), .int (xs (8 * j + 3)), .int (bz (xs (8 * j + 4)))]) (rest := []) (c_pier l mA_44 μ (xs (8 * j + 1)) (xs (8 * j + 2)) (xs (8 * j + 3)) (bz (xs (8 * j + 4))) hR.2.1) (cwV 4 hts gL_law_X6_pier rfl rfl rfl (by decide +kernel) ⟨Nat.le_of_ble_eq_true rfl, Nat.le_of_ble_eq_true rfl⟩) rfl hl.1 rfl (Nat.le_of_ble_eq_true rfl) dL_law_200 ⟨show _ ≤ 601024 by omega, show _ ≤ 7293034 by omega⟩ (fun H locs hw hS => ?_)
  refine l_tail C hs hh hw hS hl e1 e2 ⟨show _ ≤ 601024 by omega, show _ ≤ 7293034 by omega⟩ dL_law_203 dL_law_205 dL_law_206 dL_law_209 dL_law_211 dL_law_216 dL_law_218 dL_law_221 dL_law_222 dL_law_223 dL_law_224 dL_law_226 dL_law_227 dL_law_228 dL_law_233 (by decide) (fun H locs ls hw hS hl => ?_)
  refine W.widen (k := 60 + 20 * (j + 1) + 2 * cn8 u.1.2.1 u.1.2.2) (n := 4000 + 300 * (j + 1) + 300 * cn8 u.1.2.1 u.1.2.2) (by omega) (by omega) ?_
  exact kk _ _ _ _ _ _ _ _ _ hg' (by omega) hw hR' hS hl
set_option maxHeartbeats 4000000 in
set_option maxRecDepth 100000 in
theorem law_boat (hst : l.stackTraces = false) (C : lE p s m c b L xs) (hs : lS D cI cO cZ cJ aE s) (hh : s.heap.size ≤ h) (hj : 8 * j + 8 ≤ L) (ht : t ≤ 1500 * j) (hw : lW D cI cO cZ cJ (lA s.heap.size h) aE h g N σ f μ H) (hR : lR N t σ μ) (hS : va_S (fun q => s.heap.size ≤ q) s.heap H locs) (hl : lv_has ls 9 [(0, .ref b), (1, .ref (g 0 0)), (2, .ref h), (3, .ref (h + 44)), (4, .int (nI (8 * j)))]) (kk : lNx p l e s m below meth c Q D cI cO cZ cJ aE h b j (g 0 0)) : W p l e room_1 s m #[Value.ref b] below meth c H locs (60 + 20 * j + 2 * cn8 N σ) (4000 + 300 * j + 300 * cn8 N σ) Q (F0 m 236 ls []) := by
  obtain ⟨hx, hb, hml, hown, hts, hX, hbl, hL⟩ := id C
  obtain ⟨ga, cap, hgi, hki, hcp⟩ := id hw.1
  have hN := hki.1
  have hc8 := cn8_le hN σ
  refine lv_aload_n hx hb dL_law_236 rfl (lv_at hl 1 rfl) ?_
  refine l_arg C hS (i := 8 * j) (k := 1) (by omega) (lv_at hl 0 rfl) (lv_at hl 4 rfl) (by decide) dL_law_237 dL_law_238 dL_law_240 dL_law_241 dL_law_242 ?_
  refine l_arg C hS (i := 8 * j) (k := 2) (by omega) (lv_at hl 0 rfl) (lv_at hl 4 rfl) (by decide) dL_law_243 dL_law_244 dL_law_246 dL_law_247 dL_law_248 ?_
  refine l_arg C hS (i := 8 * j) (k := 3) (by omega) (lv_at hl 0 rfl) (lv_at hl 4 rfl) (by decide) dL_law_249 dL_law_250 dL_law_252 dL_law_253 dL_law_254 ?_
  refine l_arg C hS (i := 8 * j) (k := 4) (by omega) (lv_at hl 0 rfl) (lv_at hl 4 rfl) (by decide) dL_law_255 dL_law_256 dL_law_258 dL_law_259 dL_law_260 ?_
  refine l_arg C hS (i := 8 * j) (k := 5) (by omega) (lv_at hl 0 rfl) (lv_at hl 4 rfl) (by decide) dL_law_261 dL_law_262 dL_law_264 dL_law_265 dL_law_266 ?_
  refine l_arg8 C hS (i := 8 * j) (k := 6) (by omega) (lv_at hl 0 rfl) (lv_at hl 4 rfl) (by decide) dL_law_267 dL_law_268 dL_law_270 dL_law_272 dL_law_273 ?_
  refine l_arg8 C hS (i := 8 * j) (k := 7) (by omega) (lv_at hl 0 rfl) (lv_at hl 4 rfl) (by decide) dL_law_274 dL_law_275 dL_law_277 dL_law_279 dL_law_280 ?_
  refine lv_aload_n hx hb dL_law_281 rfl (lv_at hl 3 rfl) ?_
  refine vl_calli (vx_runSX (As := [.ref (g 0 0), .int (xs (8 * j + 1)), .int (xs (8 * j + 2)), .int (xs (8 * j + 3)), .int (xs (8 * j + 4)), .int (xs (8 * j + 5)), .int (xs (8 * j + 6)), .int (xs (8 * j + 7)), .ref (h + 44)]) (rest := []) ⟨hx, hb, hml, hown, hts⟩ (x_boat l hst (D := D) (A := lA s.heap.size h) (cI := cI) (cO := cO) (cJ := cJ) (aE := aE) (o := h + 44) (g := g) (N := N) σ f (xs (8 * j + 1)) (xs (8 * j + 2)) (xs (8 * j + 3)) (xs (8 * j + 4)) (xs (8 * j + 5)) (xs (8 * j + 6)) (xs (8 * j + 7))  (fun z => z.2 ⟨by omega, by omega⟩)) (vx_cwSW 9 hts gL_law_L_boat rfl rfl rfl (by decide +kernel) ⟨Nat.le_of_ble_eq_true rfl, Nat.le_of_ble_eq_true rfl⟩) ⟨wBl, fun U hU hW => ⟨rfl, lW_wW hs hS hw hh hU hW⟩⟩ rfl rfl hl.1 rfl (lv_room (Nat.le_of_ble_eq_true rfl)) dL_law_282 ⟨show _ ≤ 601024 by omega, show _ ≤ 7293034 by omega⟩) hS (fun q _ z => lA_foot hh z) (fun q z => lA_foot hh z) (fun k u t9 H locs ht9 hvm hp hB hz hk hS => ?_)
  have hw := lW_wB hw ht9 hB hk
  obtain ⟨e1, e2, ⟨t', ht', hR'⟩, hg', hc'⟩ := key_boat (xs (8 * j + 1)) (xs (8 * j + 2)) (xs (8 * j + 3)) (xs (8 * j + 4)) (xs (8 * j + 5)) (xs (8 * j + 6)) (xs (8 * j + 7))  hN hR hp
  refine lv_istore (lv' := [(5, .int k), (0, .ref b), (1, .ref (g 0 0)), (2, .ref h), (3, .ref (h + 44)), (4, .int (nI (8 * j)))]) hx hb dL_law_285 hl (by decide) rfl (fun ls hl => ?_)
  refine lv_aload_n hx hb dL_law_287 rfl (lv_at hl 3 rfl) ?_
  refine l_arg C hS (i := 8 * j) (k := 1) (by omega) (lv_at hl 1 rfl) (lv_at hl 5 rfl) (by decide) dL_law_288 dL_law_289 dL_law_291 dL_law_292 dL_law_293 ?_
  refine l_arg C hS (i := 8 * j) (k := 2) (by omega) (lv_at hl 1 rfl) (lv_at hl 5 rfl) (by decide) dL_law_294 dL_law_295 dL_law_297 dL_law_298 dL_law_299 ?_
  refine l_arg C hS (i := 8 * j) (k := 3) (by omega) (lv_at hl 1 rfl) (lv_at hl 5 rfl) (by decide) dL_law_300 dL_law_301 dL_law_303 dL_law_304 dL_law_305 ?_
  refine l_arg C hS (i := 8 * j) (k := 4) (by omega) (lv_at hl 1 rfl) (lv_at hl 5 rfl) (by decide) dL_law_306 dL_law_307 dL_law_309 dL_law_310 dL_law_311 ?_
  refine l_arg C hS (i := 8 * j) (k := 5) (by omega) (lv_at hl 1 rfl) (lv_at hl 5 rfl) (by decide) dL_law_312 dL_law_313 dL_law_315 dL_law_316 dL_law_317 ?_
  refine l_arg8 C hS (i := 8 * j) (k := 6) (by omega) (lv_at hl 1 rfl) (lv_at hl 5 rfl) (by decide) dL_law_318 dL_law_319 dL_law_321 dL_law_323 dL_law_324 ?_
  refine l_arg8 C hS (i := 8 * j) (k := 7) (by omega) (lv_at hl 1 rfl) (lv_at hl 5 rfl) (by decide) dL_law_325 dL_law_326 dL_law_328 dL_law_330 dL_law_331 ?_
  refine lm_calli C hs hh hw hS (As := [.int (xs (8 * j + 1)), .int (xs (8 * j + 2)), .int (xs (8 * j + 3)), .int (xs (8 * j + 4)), .int (xs (8 * j + 5)), .int (xs (8 * j + 6)), .int (xs (8 * j + 7))]) (rest := []) (c_boat l mA_44 μ (xs (8 * j + 1)) (xs (8 * j + 2)) (xs (8 * j + 3)) (xs (8 * j + 4)) (xs (8 * j + 5)) (xs (8 * j + 6)) (xs (8 * j + 7)) hR.2.1) (cwV 7 hts gL_law_X6_boat rfl rfl rfl (by decide +kernel) ⟨Nat.le_of_ble_eq_true rfl, Nat.le_of_ble_eq_true rfl⟩) rfl hl.1 rfl (Nat.le_of_ble_eq_true rfl) dL_law_332 ⟨show _ ≤ 601024 by omega, show _ ≤ 7293034 by omega⟩ (fun H locs hw hS => ?_)
  refine l_tail C hs hh hw hS hl e1 e2 ⟨show _ ≤ 601024 by omega, show _ ≤ 7293034 by omega⟩ dL_law_335 dL_law_337 dL_law_338 dL_law_341 dL_law_343 dL_law_348 dL_law_350 dL_law_353 dL_law_354 dL_law_355 dL_law_356 dL_law_358 dL_law_359 dL_law_360 dL_law_365 (by decide) (fun H locs ls hw hS hl => ?_)
  refine W.widen (k := 60 + 20 * (j + 1) + 2 * cn8 u.1.2.1 u.1.2.2) (n := 4000 + 300 * (j + 1) + 300 * cn8 u.1.2.1 u.1.2.2) (by omega) (by omega) ?_
  exact kk _ _ _ _ _ _ _ _ _ hg' (by omega) hw hR' hS hl
set_option maxHeartbeats 4000000 in
set_option maxRecDepth 100000 in
theorem law_swell (hst : l.stackTraces = false) (C : lE p s m c b L xs) (hs : lS D cI cO cZ cJ aE s) (hh : s.heap.size ≤ h) (hj : 8 * j + 8 ≤ L) (ht : t ≤ 1500 * j) (hw : lW D cI cO cZ cJ (lA s.heap.size h) aE h g N σ f μ H) (hR : lR N t σ μ) (hS : va_S (fun q => s.heap.size ≤ q) s.heap H locs) (hl : lv_has ls 9 [(0, .ref b), (1, .ref (g 0 0)), (2, .ref h), (3, .ref (h + 44)), (4, .int (nI (8 * j)))]) (kk : lNx p l e s m below meth c Q D cI cO cZ cJ aE h b j (g 0 0)) : W p l e room_1 s m #[Value.ref b] below meth c H locs (60 + 20 * j + 2 * cn8 N σ) (4000 + 300 * j + 300 * cn8 N σ) Q (F0 m 368 ls []) := by
  obtain ⟨hx, hb, hml, hown, hts, hX, hbl, hL⟩ := id C
  obtain ⟨ga, cap, hgi, hki, hcp⟩ := id hw.1
  have hN := hki.1
  have hc8 := cn8_le hN σ
  refine lv_aload_n hx hb dL_law_368 rfl (lv_at hl 1 rfl) ?_
  refine l_arg C hS (i := 8 * j) (k := 1) (by omega) (lv_at hl 0 rfl) (lv_at hl 4 rfl) (by decide) dL_law_369 dL_law_370 dL_law_372 dL_law_373 dL_law_374 ?_
  refine l_arg C hS (i := 8 * j) (k := 2) (by omega) (lv_at hl 0 rfl) (lv_at hl 4 rfl) (by decide) dL_law_375 dL_law_376 dL_law_378 dL_law_379 dL_law_380 ?_
  refine lv_aload_n hx hb dL_law_381 rfl (lv_at hl 3 rfl) ?_
  refine vl_calli (vx_runSX (As := [.ref (g 0 0), .int (xs (8 * j + 1)), .int (xs (8 * j + 2)), .ref (h + 44)]) (rest := []) ⟨hx, hb, hml, hown, hts⟩ (x_swell l hst (D := D) (A := lA s.heap.size h) (cI := cI) (cO := cO) (cJ := cJ) (aE := aE) (o := h + 44) (g := g) (N := N) σ f (xs (8 * j + 1)) (xs (8 * j + 2))  (fun z => z.2 ⟨by omega, by omega⟩)) (vx_cwSW 4 hts gL_law_L_swell rfl rfl rfl (by decide +kernel) ⟨Nat.le_of_ble_eq_true rfl, Nat.le_of_ble_eq_true rfl⟩) ⟨wBl, fun U hU hW => ⟨rfl, lW_wW hs hS hw hh hU hW⟩⟩ rfl rfl hl.1 rfl (lv_room (Nat.le_of_ble_eq_true rfl)) dL_law_382 ⟨show _ ≤ 601024 by omega, show _ ≤ 7293034 by omega⟩) hS (fun q _ z => lA_foot hh z) (fun q z => lA_foot hh z) (fun k u t9 H locs ht9 hvm hp hB hz hk hS => ?_)
  have hw := lW_wB hw ht9 hB hk
  obtain ⟨e1, e2, ⟨t', ht', hR'⟩, hg', hc'⟩ := key_swell (xs (8 * j + 1)) (xs (8 * j + 2))  hN hR hp
  refine lv_istore (lv' := [(5, .int k), (0, .ref b), (1, .ref (g 0 0)), (2, .ref h), (3, .ref (h + 44)), (4, .int (nI (8 * j)))]) hx hb dL_law_385 hl (by decide) rfl (fun ls hl => ?_)
  refine lv_aload_n hx hb dL_law_387 rfl (lv_at hl 3 rfl) ?_
  refine l_arg C hS (i := 8 * j) (k := 1) (by omega) (lv_at hl 1 rfl) (lv_at hl 5 rfl) (by decide) dL_law_388 dL_law_389 dL_law_391 dL_law_392 dL_law_393 ?_
  refine l_arg C hS (i := 8 * j) (k := 2) (by omega) (lv_at hl 1 rfl) (lv_at hl 5 rfl) (by decide) dL_law_394 dL_law_395 dL_law_397 dL_law_398 dL_law_399 ?_
  refine lm_calli C hs hh hw hS (As := [.int (xs (8 * j + 1)), .int (xs (8 * j + 2))]) (rest := []) (c_swell l mA_44 μ (xs (8 * j + 1)) (xs (8 * j + 2)) hR.2.1) (cwV 2 hts gL_law_X6_swell rfl rfl rfl (by decide +kernel) ⟨Nat.le_of_ble_eq_true rfl, Nat.le_of_ble_eq_true rfl⟩) rfl hl.1 rfl (Nat.le_of_ble_eq_true rfl) dL_law_400 ⟨show _ ≤ 601024 by omega, show _ ≤ 7293034 by omega⟩ (fun H locs hw hS => ?_)
  refine l_tail C hs hh hw hS hl e1 e2 ⟨show _ ≤ 601024 by omega, show _ ≤ 7293034 by omega⟩ dL_law_403 dL_law_405 dL_law_406 dL_law_409 dL_law_411 dL_law_416 dL_law_418 dL_law_421 dL_law_422 dL_law_423 dL_law_424 dL_law_426 dL_law_427 dL_law_428 dL_law_433 (by decide) (fun H locs ls hw hS hl => ?_)
  refine W.widen (k := 60 + 20 * (j + 1) + 2 * cn8 u.1.2.1 u.1.2.2) (n := 4000 + 300 * (j + 1) + 300 * cn8 u.1.2.1 u.1.2.2) (by omega) (by omega) ?_
  exact kk _ _ _ _ _ _ _ _ _ hg' (by omega) hw hR' hS hl
set_option maxHeartbeats 4000000 in
set_option maxRecDepth 100000 in
theorem law_breakDown (hst : l.stackTraces = false) (C : lE p s m c b L xs) (hs : lS D cI cO cZ cJ aE s) (hh : s.heap.size ≤ h) (hj : 8 * j + 8 ≤ L) (ht : t ≤ 1500 * j) (hw : lW D cI cO cZ cJ (lA s.heap.size h) aE h g N σ f μ H) (hR : lR N t σ μ) (hS : va_S (fun q => s.heap.size ≤ q) s.heap H locs) (hl : lv_has ls 9 [(0, .ref b), (1, .ref (g 0 0)), (2, .ref h), (3, .ref (h + 44)), (4, .int (nI (8 * j)))]) (kk : lNx p l e s m below meth c Q D cI cO cZ cJ aE h b j (g 0 0)) : W p l e room_1 s m #[Value.ref b] below meth c H locs (60 + 20 * j + 2 * cn8 N σ) (4000 + 300 * j + 300 * cn8 N σ) Q (F0 m 436 ls []) := by
  obtain ⟨hx, hb, hml, hown, hts, hX, hbl, hL⟩ := id C
  obtain ⟨ga, cap, hgi, hki, hcp⟩ := id hw.1
  have hN := hki.1
  have hc8 := cn8_le hN σ
  refine lv_aload_n hx hb dL_law_436 rfl (lv_at hl 1 rfl) ?_
  refine l_arg C hS (i := 8 * j) (k := 1) (by omega) (lv_at hl 0 rfl) (lv_at hl 4 rfl) (by decide) dL_law_437 dL_law_438 dL_law_440 dL_law_441 dL_law_442 ?_
  refine lv_aload_n hx hb dL_law_443 rfl (lv_at hl 3 rfl) ?_
  refine vl_calli (vx_runSX (As := [.ref (g 0 0), .int (xs (8 * j + 1)), .ref (h + 44)]) (rest := []) ⟨hx, hb, hml, hown, hts⟩ (x_breakDown l hst (D := D) (A := lA s.heap.size h) (cI := cI) (cO := cO) (cJ := cJ) (aE := aE) (o := h + 44) (g := g) (N := N) σ f (xs (8 * j + 1))  (fun z => z.2 ⟨by omega, by omega⟩)) (vx_cwSW 3 hts gL_law_L_breakDown rfl rfl rfl (by decide +kernel) ⟨Nat.le_of_ble_eq_true rfl, Nat.le_of_ble_eq_true rfl⟩) ⟨wBl, fun U hU hW => ⟨rfl, lW_wW hs hS hw hh hU hW⟩⟩ rfl rfl hl.1 rfl (lv_room (Nat.le_of_ble_eq_true rfl)) dL_law_444 ⟨show _ ≤ 601024 by omega, show _ ≤ 7293034 by omega⟩) hS (fun q _ z => lA_foot hh z) (fun q z => lA_foot hh z) (fun k u t9 H locs ht9 hvm hp hB hz hk hS => ?_)
  have hw := lW_wB hw ht9 hB hk
  obtain ⟨e1, e2, ⟨t', ht', hR'⟩, hg', hc'⟩ := key_breakDown (xs (8 * j + 1))  hN hR hp
  refine lv_istore (lv' := [(5, .int k), (0, .ref b), (1, .ref (g 0 0)), (2, .ref h), (3, .ref (h + 44)), (4, .int (nI (8 * j)))]) hx hb dL_law_447 hl (by decide) rfl (fun ls hl => ?_)
  refine lv_aload_n hx hb dL_law_449 rfl (lv_at hl 3 rfl) ?_
  refine l_arg C hS (i := 8 * j) (k := 1) (by omega) (lv_at hl 1 rfl) (lv_at hl 5 rfl) (by decide) dL_law_450 dL_law_451 dL_law_453 dL_law_454 dL_law_455 ?_
  refine lm_calli C hs hh hw hS (As := [.int (xs (8 * j + 1))]) (rest := []) (c_breakDown l mA_44 μ (xs (8 * j + 1)) hR.2.1) (cwV 1 hts gL_law_X6_breakDown rfl rfl rfl (by decide +kernel) ⟨Nat.le_of_ble_eq_true rfl, Nat.le_of_ble_eq_true rfl⟩) rfl hl.1 rfl (Nat.le_of_ble_eq_true rfl) dL_law_456 ⟨show _ ≤ 601024 by omega, show _ ≤ 7293034 by omega⟩ (fun H locs hw hS => ?_)
  refine l_tailB C hs hh hw hS hl e1 e2 ⟨show _ ≤ 601024 by omega, show _ ≤ 7293034 by omega⟩ dL_law_459 dL_law_461 dL_law_462 dL_law_465 dL_law_467 dL_law_472 dL_law_474 dL_law_477 dL_law_478 dL_law_479 dL_law_480 dL_law_482 dL_law_485 dL_law_486 dL_law_489 dL_law_490 dL_law_491 dL_law_496 (by decide) (fun H locs ls hw hS hl => ?_)
  refine W.widen (k := 60 + 20 * (j + 1) + 2 * cn8 u.1.2.1 u.1.2.2) (n := 4000 + 300 * (j + 1) + 300 * cn8 u.1.2.1 u.1.2.2) (by omega) (by omega) ?_
  exact kk _ _ _ _ _ _ _ _ _ hg' (by omega) hw hR' hS hl
set_option maxHeartbeats 4000000 in
set_option maxRecDepth 100000 in
theorem law_relieve (hst : l.stackTraces = false) (C : lE p s m c b L xs) (hs : lS D cI cO cZ cJ aE s) (hh : s.heap.size ≤ h) (hj : 8 * j + 8 ≤ L) (ht : t ≤ 1500 * j) (hw : lW D cI cO cZ cJ (lA s.heap.size h) aE h g N σ f μ H) (hR : lR N t σ μ) (hS : va_S (fun q => s.heap.size ≤ q) s.heap H locs) (hl : lv_has ls 9 [(0, .ref b), (1, .ref (g 0 0)), (2, .ref h), (3, .ref (h + 44)), (4, .int (nI (8 * j)))]) (kk : lNx p l e s m below meth c Q D cI cO cZ cJ aE h b j (g 0 0)) : W p l e room_1 s m #[Value.ref b] below meth c H locs (60 + 20 * j + 2 * cn8 N σ) (4000 + 300 * j + 300 * cn8 N σ) Q (F0 m 499 ls []) := by
  obtain ⟨hx, hb, hml, hown, hts, hX, hbl, hL⟩ := id C
  obtain ⟨ga, cap, hgi, hki, hcp⟩ := id hw.1
  have hN := hki.1
  have hc8 := cn8_le hN σ
  refine lv_aload_n hx hb dL_law_499 rfl (lv_at hl 1 rfl) ?_
  refine l_arg C hS (i := 8 * j) (k := 1) (by omega) (lv_at hl 0 rfl) (lv_at hl 4 rfl) (by decide) dL_law_500 dL_law_501 dL_law_503 dL_law_504 dL_law_505 ?_
  refine l_arg C hS (i := 8 * j) (k := 2) (by omega) (lv_at hl 0 rfl) (lv_at hl 4 rfl) (by decide) dL_law_506 dL_law_507 dL_law_509 dL_law_510 dL_law_511 ?_
  refine lv_aload_n hx hb dL_law_512 rfl (lv_at hl 3 rfl) ?_
  refine vl_calli (vx_runSX (As := [.ref (g 0 0), .int (xs (8 * j + 1)), .int (xs (8 * j + 2)), .ref (h + 44)]) (rest := []) ⟨hx, hb, hml, hown, hts⟩ (x_relieve l hst (D := D) (A := lA s.heap.size h) (cI := cI) (cO := cO) (cJ := cJ) (aE := aE) (o := h + 44) (g := g) (N := N) σ f (xs (8 * j + 1)) (xs (8 * j + 2))  (fun z => z.2 ⟨by omega, by omega⟩)) (vx_cwSW 4 hts gL_law_L_relieve rfl rfl rfl (by decide +kernel) ⟨Nat.le_of_ble_eq_true rfl, Nat.le_of_ble_eq_true rfl⟩) ⟨wBl, fun U hU hW => ⟨rfl, lW_wW hs hS hw hh hU hW⟩⟩ rfl rfl hl.1 rfl (lv_room (Nat.le_of_ble_eq_true rfl)) dL_law_513 ⟨show _ ≤ 601024 by omega, show _ ≤ 7293034 by omega⟩) hS (fun q _ z => lA_foot hh z) (fun q z => lA_foot hh z) (fun k u t9 H locs ht9 hvm hp hB hz hk hS => ?_)
  have hw := lW_wB hw ht9 hB hk
  obtain ⟨e1, e2, ⟨t', ht', hR'⟩, hg', hc'⟩ := key_relieve (xs (8 * j + 1)) (xs (8 * j + 2))  hN hR hp
  refine lv_istore (lv' := [(5, .int k), (0, .ref b), (1, .ref (g 0 0)), (2, .ref h), (3, .ref (h + 44)), (4, .int (nI (8 * j)))]) hx hb dL_law_516 hl (by decide) rfl (fun ls hl => ?_)
  refine lv_aload_n hx hb dL_law_518 rfl (lv_at hl 3 rfl) ?_
  refine l_arg C hS (i := 8 * j) (k := 1) (by omega) (lv_at hl 1 rfl) (lv_at hl 5 rfl) (by decide) dL_law_519 dL_law_520 dL_law_522 dL_law_523 dL_law_524 ?_
  refine l_arg C hS (i := 8 * j) (k := 2) (by omega) (lv_at hl 1 rfl) (lv_at hl 5 rfl) (by decide) dL_law_525 dL_law_526 dL_law_528 dL_law_529 dL_law_530 ?_
  refine lm_calli C hs hh hw hS (As := [.int (xs (8 * j + 1)), .int (xs (8 * j + 2))]) (rest := []) (c_relieve l mA_44 μ (xs (8 * j + 1)) (xs (8 * j + 2)) hR.2.1) (cwV 2 hts gL_law_X6_relieve rfl rfl rfl (by decide +kernel) ⟨Nat.le_of_ble_eq_true rfl, Nat.le_of_ble_eq_true rfl⟩) rfl hl.1 rfl (Nat.le_of_ble_eq_true rfl) dL_law_531 ⟨show _ ≤ 601024 by omega, show _ ≤ 7293034 by omega⟩ (fun H locs hw hS => ?_)
  refine l_tail C hs hh hw hS hl e1 e2 ⟨show _ ≤ 601024 by omega, show _ ≤ 7293034 by omega⟩ dL_law_534 dL_law_536 dL_law_537 dL_law_540 dL_law_542 dL_law_547 dL_law_549 dL_law_552 dL_law_553 dL_law_554 dL_law_555 dL_law_557 dL_law_558 dL_law_559 dL_law_564 (by decide) (fun H locs ls hw hS hl => ?_)
  refine W.widen (k := 60 + 20 * (j + 1) + 2 * cn8 u.1.2.1 u.1.2.2) (n := 4000 + 300 * (j + 1) + 300 * cn8 u.1.2.1 u.1.2.2) (by omega) (by omega) ?_
  exact kk _ _ _ _ _ _ _ _ _ hg' (by omega) hw hR' hS hl
set_option maxHeartbeats 4000000 in
set_option maxRecDepth 100000 in
theorem law_sailing (hst : l.stackTraces = false) (C : lE p s m c b L xs) (hs : lS D cI cO cZ cJ aE s) (hh : s.heap.size ≤ h) (hj : 8 * j + 8 ≤ L) (ht : t ≤ 1500 * j) (hw : lW D cI cO cZ cJ (lA s.heap.size h) aE h g N σ f μ H) (hR : lR N t σ μ) (hS : va_S (fun q => s.heap.size ≤ q) s.heap H locs) (hl : lv_has ls 9 [(0, .ref b), (1, .ref (g 0 0)), (2, .ref h), (3, .ref (h + 44)), (4, .int (nI (8 * j)))]) (kk : lNx p l e s m below meth c Q D cI cO cZ cJ aE h b j (g 0 0)) : W p l e room_1 s m #[Value.ref b] below meth c H locs (60 + 20 * j + 2 * cn8 N σ) (4000 + 300 * j + 300 * cn8 N σ) Q (F0 m 567 ls []) := by
  obtain ⟨hx, hb, hml, hown, hts, hX, hbl, hL⟩ := id C
  obtain ⟨ga, cap, hgi, hki, hcp⟩ := id hw.1
  have hN := hki.1
  have hc8 := cn8_le hN σ
  refine lv_aload_n hx hb dL_law_567 rfl (lv_at hl 1 rfl) ?_
  refine l_arg C hS (i := 8 * j) (k := 1) (by omega) (lv_at hl 0 rfl) (lv_at hl 4 rfl) (by decide) dL_law_568 dL_law_569 dL_law_571 dL_law_572 dL_law_573 ?_
  refine l_arg C hS (i := 8 * j) (k := 2) (by omega) (lv_at hl 0 rfl) (lv_at hl 4 rfl) (by decide) dL_law_574 dL_law_575 dL_law_577 dL_law_578 dL_law_579 ?_
  refine l_arg C hS (i := 8 * j) (k := 3) (by omega) (lv_at hl 0 rfl) (lv_at hl 4 rfl) (by decide) dL_law_580 dL_law_581 dL_law_583 dL_law_584 dL_law_585 ?_
  refine l_arg C hS (i := 8 * j) (k := 4) (by omega) (lv_at hl 0 rfl) (lv_at hl 4 rfl) (by decide) dL_law_586 dL_law_587 dL_law_589 dL_law_590 dL_law_591 ?_
  refine l_arg C hS (i := 8 * j) (k := 5) (by omega) (lv_at hl 0 rfl) (lv_at hl 4 rfl) (by decide) dL_law_592 dL_law_593 dL_law_595 dL_law_596 dL_law_597 ?_
  refine l_arg8 C hS (i := 8 * j) (k := 6) (by omega) (lv_at hl 0 rfl) (lv_at hl 4 rfl) (by decide) dL_law_598 dL_law_599 dL_law_601 dL_law_603 dL_law_604 ?_
  refine l_bool C dL_law_605 dL_law_608 dL_law_609 dL_law_612 ?_
  refine lv_aload_n hx hb dL_law_613 rfl (lv_at hl 3 rfl) ?_
  refine vl_calli (vx_runSX (As := [.ref (g 0 0), .int (xs (8 * j + 1)), .int (xs (8 * j + 2)), .int (xs (8 * j + 3)), .int (xs (8 * j + 4)), .int (xs (8 * j + 5)), .int (bz (xs (8 * j + 6))), .ref (h + 44)]) (rest := []) ⟨hx, hb, hml, hown, hts⟩ (x_sailing l hst (D := D) (A := lA s.heap.size h) (cI := cI) (cO := cO) (cJ := cJ) (aE := aE) (o := h + 44) (g := g) (N := N) σ f (xs (8 * j + 1)) (xs (8 * j + 2)) (xs (8 * j + 3)) (xs (8 * j + 4)) (xs (8 * j + 5)) (bz (xs (8 * j + 6))) (isB_bz _) (fun z => z.2 ⟨by omega, by omega⟩)) (vx_cwSW 8 hts gL_law_L_sailing rfl rfl rfl (by decide +kernel) ⟨Nat.le_of_ble_eq_true rfl, Nat.le_of_ble_eq_true rfl⟩) ⟨wBl, fun U hU hW => ⟨rfl, lW_wW hs hS hw hh hU hW⟩⟩ rfl rfl hl.1 rfl (lv_room (Nat.le_of_ble_eq_true rfl)) dL_law_614 ⟨show _ ≤ 601024 by omega, show _ ≤ 7293034 by omega⟩) hS (fun q _ z => lA_foot hh z) (fun q z => lA_foot hh z) (fun k u t9 H locs ht9 hvm hp hB hz hk hS => ?_)
  have hw := lW_wB hw ht9 hB hk
  obtain ⟨e1, e2, ⟨t', ht', hR'⟩, hg', hc'⟩ := key_sailing (xs (8 * j + 1)) (xs (8 * j + 2)) (xs (8 * j + 3)) (xs (8 * j + 4)) (xs (8 * j + 5)) (bz (xs (8 * j + 6))) (isB_bz _) (by omega) hN hR hp
  refine lv_istore (lv' := [(5, .int k), (0, .ref b), (1, .ref (g 0 0)), (2, .ref h), (3, .ref (h + 44)), (4, .int (nI (8 * j)))]) hx hb dL_law_617 hl (by decide) rfl (fun ls hl => ?_)
  refine lv_aload_n hx hb dL_law_619 rfl (lv_at hl 3 rfl) ?_
  refine l_arg C hS (i := 8 * j) (k := 1) (by omega) (lv_at hl 1 rfl) (lv_at hl 5 rfl) (by decide) dL_law_620 dL_law_621 dL_law_623 dL_law_624 dL_law_625 ?_
  refine l_arg C hS (i := 8 * j) (k := 2) (by omega) (lv_at hl 1 rfl) (lv_at hl 5 rfl) (by decide) dL_law_626 dL_law_627 dL_law_629 dL_law_630 dL_law_631 ?_
  refine l_arg C hS (i := 8 * j) (k := 3) (by omega) (lv_at hl 1 rfl) (lv_at hl 5 rfl) (by decide) dL_law_632 dL_law_633 dL_law_635 dL_law_636 dL_law_637 ?_
  refine l_arg C hS (i := 8 * j) (k := 4) (by omega) (lv_at hl 1 rfl) (lv_at hl 5 rfl) (by decide) dL_law_638 dL_law_639 dL_law_641 dL_law_642 dL_law_643 ?_
  refine l_arg C hS (i := 8 * j) (k := 5) (by omega) (lv_at hl 1 rfl) (lv_at hl 5 rfl) (by decide) dL_law_644 dL_law_645 dL_law_647 dL_law_648 dL_law_649 ?_
  refine l_arg8 C hS (i := 8 * j) (k := 6) (by omega) (lv_at hl 1 rfl) (lv_at hl 5 rfl) (by decide) dL_law_650 dL_law_651 dL_law_653 dL_law_655 dL_law_656 ?_
  refine l_bool C dL_law_657 dL_law_660 dL_law_661 dL_law_664 ?_
  refine lm_calli C hs hh hw hS (As := [.int (xs (8 * j + 1)), .int (xs (8 * j + 2)), .int (xs (8 * j + 3)), .int (xs (8 * j + 4)), .int (xs (8 * j + 5)), .int (bz (xs (8 * j + 6)))]) (rest := []) (c_sailing l mA_44 μ (xs (8 * j + 1)) (xs (8 * j + 2)) (xs (8 * j + 3)) (xs (8 * j + 4)) (xs (8 * j + 5)) (bz (xs (8 * j + 6))) hR.2.1) (cwV 6 hts gL_law_X6_sailing rfl rfl rfl (by decide +kernel) ⟨Nat.le_of_ble_eq_true rfl, Nat.le_of_ble_eq_true rfl⟩) rfl hl.1 rfl (Nat.le_of_ble_eq_true rfl) dL_law_665 ⟨show _ ≤ 601024 by omega, show _ ≤ 7293034 by omega⟩ (fun H locs hw hS => ?_)
  refine l_tail C hs hh hw hS hl e1 e2 ⟨show _ ≤ 601024 by omega, show _ ≤ 7293034 by omega⟩ dL_law_668 dL_law_670 dL_law_671 dL_law_674 dL_law_676 dL_law_681 dL_law_683 dL_law_686 dL_law_687 dL_law_688 dL_law_689 dL_law_691 dL_law_692 dL_law_693 dL_law_698 (by decide) (fun H locs ls hw hS hl => ?_)
  refine W.widen (k := 60 + 20 * (j + 1) + 2 * cn8 u.1.2.1 u.1.2.2) (n := 4000 + 300 * (j + 1) + 300 * cn8 u.1.2.1 u.1.2.2) (by omega) (by omega) ?_
  exact kk _ _ _ _ _ _ _ _ _ hg' (by omega) hw hR' hS hl
set_option maxHeartbeats 4000000 in
set_option maxRecDepth 100000 in
theorem law_book (hst : l.stackTraces = false) (C : lE p s m c b L xs) (hs : lS D cI cO cZ cJ aE s) (hh : s.heap.size ≤ h) (hj : 8 * j + 8 ≤ L) (ht : t ≤ 1500 * j) (hw : lW D cI cO cZ cJ (lA s.heap.size h) aE h g N σ f μ H) (hR : lR N t σ μ) (hS : va_S (fun q => s.heap.size ≤ q) s.heap H locs) (hl : lv_has ls 9 [(0, .ref b), (1, .ref (g 0 0)), (2, .ref h), (3, .ref (h + 44)), (4, .int (nI (8 * j)))]) (kk : lNx p l e s m below meth c Q D cI cO cZ cJ aE h b j (g 0 0)) : W p l e room_1 s m #[Value.ref b] below meth c H locs (60 + 20 * j + 2 * cn8 N σ) (4000 + 300 * j + 300 * cn8 N σ) Q (F0 m 701 ls []) := by
  obtain ⟨hx, hb, hml, hown, hts, hX, hbl, hL⟩ := id C
  obtain ⟨ga, cap, hgi, hki, hcp⟩ := id hw.1
  have hN := hki.1
  have hc8 := cn8_le hN σ
  refine lv_aload_n hx hb dL_law_701 rfl (lv_at hl 1 rfl) ?_
  refine l_arg C hS (i := 8 * j) (k := 1) (by omega) (lv_at hl 0 rfl) (lv_at hl 4 rfl) (by decide) dL_law_702 dL_law_703 dL_law_705 dL_law_706 dL_law_707 ?_
  refine l_arg C hS (i := 8 * j) (k := 2) (by omega) (lv_at hl 0 rfl) (lv_at hl 4 rfl) (by decide) dL_law_708 dL_law_709 dL_law_711 dL_law_712 dL_law_713 ?_
  refine l_arg C hS (i := 8 * j) (k := 3) (by omega) (lv_at hl 0 rfl) (lv_at hl 4 rfl) (by decide) dL_law_714 dL_law_715 dL_law_717 dL_law_718 dL_law_719 ?_
  refine l_arg C hS (i := 8 * j) (k := 4) (by omega) (lv_at hl 0 rfl) (lv_at hl 4 rfl) (by decide) dL_law_720 dL_law_721 dL_law_723 dL_law_724 dL_law_725 ?_
  refine l_arg C hS (i := 8 * j) (k := 5) (by omega) (lv_at hl 0 rfl) (lv_at hl 4 rfl) (by decide) dL_law_726 dL_law_727 dL_law_729 dL_law_730 dL_law_731 ?_
  refine l_arg8 C hS (i := 8 * j) (k := 6) (by omega) (lv_at hl 0 rfl) (lv_at hl 4 rfl) (by decide) dL_law_732 dL_law_733 dL_law_735 dL_law_737 dL_law_738 ?_
  refine l_bool C dL_law_739 dL_law_742 dL_law_743 dL_law_746 ?_
  refine l_arg8 C hS (i := 8 * j) (k := 7) (by omega) (lv_at hl 0 rfl) (lv_at hl 4 rfl) (by decide) dL_law_747 dL_law_748 dL_law_750 dL_law_752 dL_law_753 ?_
  refine l_bool C dL_law_754 dL_law_757 dL_law_758 dL_law_761 ?_
  refine lv_aload_n hx hb dL_law_762 rfl (lv_at hl 3 rfl) ?_
  refine vl_calli (vx_runSX (As := [.ref (g 0 0), .int (xs (8 * j + 1)), .int (xs (8 * j + 2)), .int (xs (8 * j + 3)), .int (xs (8 * j + 4)), .int (xs (8 * j + 5)), .int (bz (xs (8 * j + 6))), .int (bz (xs (8 * j + 7))), .ref (h + 44)]) (rest := []) ⟨hx, hb, hml, hown, hts⟩ (x_book l hst (D := D) (A := lA s.heap.size h) (cI := cI) (cO := cO) (cJ := cJ) (aE := aE) (o := h + 44) (g := g) (N := N) σ f (xs (8 * j + 1)) (xs (8 * j + 2)) (xs (8 * j + 3)) (xs (8 * j + 4)) (xs (8 * j + 5)) (bz (xs (8 * j + 6))) (bz (xs (8 * j + 7))) (isB_bz _) (isB_bz _) (fun z => z.2 ⟨by omega, by omega⟩)) (vx_cwSW 9 hts gL_law_L_book rfl rfl rfl (by decide +kernel) ⟨Nat.le_of_ble_eq_true rfl, Nat.le_of_ble_eq_true rfl⟩) ⟨wBl, fun U hU hW => ⟨rfl, lW_wW hs hS hw hh hU hW⟩⟩ rfl rfl hl.1 rfl (lv_room (Nat.le_of_ble_eq_true rfl)) dL_law_763 ⟨show _ ≤ 601024 by omega, show _ ≤ 7293034 by omega⟩) hS (fun q _ z => lA_foot hh z) (fun q z => lA_foot hh z) (fun k u t9 H locs ht9 hvm hp hB hz hk hS => ?_)
  have hw := lW_wB hw ht9 hB hk
  obtain ⟨e1, e2, ⟨t', ht', hR'⟩, hg', hc'⟩ := key_book (xs (8 * j + 1)) (xs (8 * j + 2)) (xs (8 * j + 3)) (xs (8 * j + 4)) (xs (8 * j + 5)) (bz (xs (8 * j + 6))) (bz (xs (8 * j + 7))) (isB_bz _) (isB_bz _) hN hR hp
  refine lv_istore (lv' := [(5, .int k), (0, .ref b), (1, .ref (g 0 0)), (2, .ref h), (3, .ref (h + 44)), (4, .int (nI (8 * j)))]) hx hb dL_law_766 hl (by decide) rfl (fun ls hl => ?_)
  refine lv_aload_n hx hb dL_law_768 rfl (lv_at hl 3 rfl) ?_
  refine l_arg C hS (i := 8 * j) (k := 1) (by omega) (lv_at hl 1 rfl) (lv_at hl 5 rfl) (by decide) dL_law_769 dL_law_770 dL_law_772 dL_law_773 dL_law_774 ?_
  refine l_arg C hS (i := 8 * j) (k := 2) (by omega) (lv_at hl 1 rfl) (lv_at hl 5 rfl) (by decide) dL_law_775 dL_law_776 dL_law_778 dL_law_779 dL_law_780 ?_
  refine l_arg C hS (i := 8 * j) (k := 3) (by omega) (lv_at hl 1 rfl) (lv_at hl 5 rfl) (by decide) dL_law_781 dL_law_782 dL_law_784 dL_law_785 dL_law_786 ?_
  refine l_arg C hS (i := 8 * j) (k := 4) (by omega) (lv_at hl 1 rfl) (lv_at hl 5 rfl) (by decide) dL_law_787 dL_law_788 dL_law_790 dL_law_791 dL_law_792 ?_
  refine l_arg C hS (i := 8 * j) (k := 5) (by omega) (lv_at hl 1 rfl) (lv_at hl 5 rfl) (by decide) dL_law_793 dL_law_794 dL_law_796 dL_law_797 dL_law_798 ?_
  refine l_arg8 C hS (i := 8 * j) (k := 6) (by omega) (lv_at hl 1 rfl) (lv_at hl 5 rfl) (by decide) dL_law_799 dL_law_800 dL_law_802 dL_law_804 dL_law_805 ?_
  refine l_bool C dL_law_806 dL_law_809 dL_law_810 dL_law_813 ?_
  refine l_arg8 C hS (i := 8 * j) (k := 7) (by omega) (lv_at hl 1 rfl) (lv_at hl 5 rfl) (by decide) dL_law_814 dL_law_815 dL_law_817 dL_law_819 dL_law_820 ?_
  refine l_bool C dL_law_821 dL_law_824 dL_law_825 dL_law_828 ?_
  refine lm_calli C hs hh hw hS (As := [.int (xs (8 * j + 1)), .int (xs (8 * j + 2)), .int (xs (8 * j + 3)), .int (xs (8 * j + 4)), .int (xs (8 * j + 5)), .int (bz (xs (8 * j + 6))), .int (bz (xs (8 * j + 7)))]) (rest := []) (c_book l mA_44 μ (xs (8 * j + 1)) (xs (8 * j + 2)) (xs (8 * j + 3)) (xs (8 * j + 4)) (xs (8 * j + 5)) (bz (xs (8 * j + 6))) (bz (xs (8 * j + 7))) hR.2.1) (cwV 7 hts gL_law_X6_book rfl rfl rfl (by decide +kernel) ⟨Nat.le_of_ble_eq_true rfl, Nat.le_of_ble_eq_true rfl⟩) rfl hl.1 rfl (Nat.le_of_ble_eq_true rfl) dL_law_829 ⟨show _ ≤ 601024 by omega, show _ ≤ 7293034 by omega⟩ (fun H locs hw hS => ?_)
  refine l_tail C hs hh hw hS hl e1 e2 ⟨show _ ≤ 601024 by omega, show _ ≤ 7293034 by omega⟩ dL_law_832 dL_law_834 dL_law_835 dL_law_838 dL_law_840 dL_law_845 dL_law_847 dL_law_850 dL_law_851 dL_law_852 dL_law_853 dL_law_855 dL_law_856 dL_law_857 dL_law_862 (by decide) (fun H locs ls hw hS hl => ?_)
  refine W.widen (k := 60 + 20 * (j + 1) + 2 * cn8 u.1.2.1 u.1.2.2) (n := 4000 + 300 * (j + 1) + 300 * cn8 u.1.2.1 u.1.2.2) (by omega) (by omega) ?_
  exact kk _ _ _ _ _ _ _ _ _ hg' (by omega) hw hR' hS hl
set_option maxHeartbeats 4000000 in
set_option maxRecDepth 100000 in
theorem law_rate (hst : l.stackTraces = false) (C : lE p s m c b L xs) (hs : lS D cI cO cZ cJ aE s) (hh : s.heap.size ≤ h) (hj : 8 * j + 8 ≤ L) (ht : t ≤ 1500 * j) (hw : lW D cI cO cZ cJ (lA s.heap.size h) aE h g N σ f μ H) (hR : lR N t σ μ) (hS : va_S (fun q => s.heap.size ≤ q) s.heap H locs) (hl : lv_has ls 9 [(0, .ref b), (1, .ref (g 0 0)), (2, .ref h), (3, .ref (h + 44)), (4, .int (nI (8 * j)))]) (kk : lNx p l e s m below meth c Q D cI cO cZ cJ aE h b j (g 0 0)) : W p l e room_1 s m #[Value.ref b] below meth c H locs (60 + 20 * j + 2 * cn8 N σ) (4000 + 300 * j + 300 * cn8 N σ) Q (F0 m 865 ls []) := by
  obtain ⟨hx, hb, hml, hown, hts, hX, hbl, hL⟩ := id C
  obtain ⟨ga, cap, hgi, hki, hcp⟩ := id hw.1
  have hN := hki.1
  have hc8 := cn8_le hN σ
  refine lv_aload_n hx hb dL_law_865 rfl (lv_at hl 1 rfl) ?_
  refine l_arg C hS (i := 8 * j) (k := 1) (by omega) (lv_at hl 0 rfl) (lv_at hl 4 rfl) (by decide) dL_law_866 dL_law_867 dL_law_869 dL_law_870 dL_law_871 ?_
  refine l_arg C hS (i := 8 * j) (k := 2) (by omega) (lv_at hl 0 rfl) (lv_at hl 4 rfl) (by decide) dL_law_872 dL_law_873 dL_law_875 dL_law_876 dL_law_877 ?_
  refine lv_aload_n hx hb dL_law_878 rfl (lv_at hl 3 rfl) ?_
  refine vl_calli (vx_runSX (As := [.ref (g 0 0), .int (xs (8 * j + 1)), .int (xs (8 * j + 2)), .ref (h + 44)]) (rest := []) ⟨hx, hb, hml, hown, hts⟩ (x_rate l hst (D := D) (A := lA s.heap.size h) (cI := cI) (cO := cO) (cJ := cJ) (aE := aE) (o := h + 44) (g := g) (N := N) σ f (xs (8 * j + 1)) (xs (8 * j + 2))  (fun z => z.2 ⟨by omega, by omega⟩)) (vx_cwSW 4 hts gL_law_L_rate rfl rfl rfl (by decide +kernel) ⟨Nat.le_of_ble_eq_true rfl, Nat.le_of_ble_eq_true rfl⟩) ⟨wBl, fun U hU hW => ⟨rfl, lW_wW hs hS hw hh hU hW⟩⟩ rfl rfl hl.1 rfl (lv_room (Nat.le_of_ble_eq_true rfl)) dL_law_879 ⟨show _ ≤ 601024 by omega, show _ ≤ 7293034 by omega⟩) hS (fun q _ z => lA_foot hh z) (fun q z => lA_foot hh z) (fun k u t9 H locs ht9 hvm hp hB hz hk hS => ?_)
  have hw := lW_wB hw ht9 hB hk
  obtain ⟨e1, e2, ⟨t', ht', hR'⟩, hg', hc'⟩ := key_rate (xs (8 * j + 1)) (xs (8 * j + 2))  hN hR hp
  refine lv_istore (lv' := [(5, .int k), (0, .ref b), (1, .ref (g 0 0)), (2, .ref h), (3, .ref (h + 44)), (4, .int (nI (8 * j)))]) hx hb dL_law_882 hl (by decide) rfl (fun ls hl => ?_)
  refine lv_aload_n hx hb dL_law_884 rfl (lv_at hl 3 rfl) ?_
  refine l_arg C hS (i := 8 * j) (k := 1) (by omega) (lv_at hl 1 rfl) (lv_at hl 5 rfl) (by decide) dL_law_885 dL_law_886 dL_law_888 dL_law_889 dL_law_890 ?_
  refine l_arg C hS (i := 8 * j) (k := 2) (by omega) (lv_at hl 1 rfl) (lv_at hl 5 rfl) (by decide) dL_law_891 dL_law_892 dL_law_894 dL_law_895 dL_law_896 ?_
  refine lm_calli C hs hh hw hS (As := [.int (xs (8 * j + 1)), .int (xs (8 * j + 2))]) (rest := []) (c_rate l mA_44 μ (xs (8 * j + 1)) (xs (8 * j + 2)) hR.2.1) (cwV 2 hts gL_law_X6_rate rfl rfl rfl (by decide +kernel) ⟨Nat.le_of_ble_eq_true rfl, Nat.le_of_ble_eq_true rfl⟩) rfl hl.1 rfl (Nat.le_of_ble_eq_true rfl) dL_law_897 ⟨show _ ≤ 601024 by omega, show _ ≤ 7293034 by omega⟩ (fun H locs hw hS => ?_)
  refine l_tail C hs hh hw hS hl e1 e2 ⟨show _ ≤ 601024 by omega, show _ ≤ 7293034 by omega⟩ dL_law_900 dL_law_902 dL_law_903 dL_law_906 dL_law_908 dL_law_913 dL_law_915 dL_law_918 dL_law_919 dL_law_920 dL_law_921 dL_law_923 dL_law_924 dL_law_925 dL_law_930 (by decide) (fun H locs ls hw hS hl => ?_)
  refine W.widen (k := 60 + 20 * (j + 1) + 2 * cn8 u.1.2.1 u.1.2.2) (n := 4000 + 300 * (j + 1) + 300 * cn8 u.1.2.1 u.1.2.2) (by omega) (by omega) ?_
  exact kk _ _ _ _ _ _ _ _ _ hg' (by omega) hw hR' hS hl
set_option maxHeartbeats 4000000 in
set_option maxRecDepth 100000 in
theorem law_pass (hst : l.stackTraces = false) (C : lE p s m c b L xs) (hs : lS D cI cO cZ cJ aE s) (hh : s.heap.size ≤ h) (hj : 8 * j + 8 ≤ L) (ht : t ≤ 1500 * j) (hw : lW D cI cO cZ cJ (lA s.heap.size h) aE h g N σ f μ H) (hR : lR N t σ μ) (hS : va_S (fun q => s.heap.size ≤ q) s.heap H locs) (hl : lv_has ls 9 [(0, .ref b), (1, .ref (g 0 0)), (2, .ref h), (3, .ref (h + 44)), (4, .int (nI (8 * j)))]) (kk : lNx p l e s m below meth c Q D cI cO cZ cJ aE h b j (g 0 0)) : W p l e room_1 s m #[Value.ref b] below meth c H locs (60 + 20 * j + 2 * cn8 N σ) (4000 + 300 * j + 300 * cn8 N σ) Q (F0 m 933 ls []) := by
  obtain ⟨hx, hb, hml, hown, hts, hX, hbl, hL⟩ := id C
  obtain ⟨ga, cap, hgi, hki, hcp⟩ := id hw.1
  have hN := hki.1
  have hc8 := cn8_le hN σ
  by_cases hv : ¬ (xs (8 * j + 1)) < (1 : Int32) ∧ (xs (8 * j + 1)) ≤ (1500 : Int32)
  · have hc9 := cn8_le hN (s_X5_pass σ (xs (8 * j + 1)))
    refine lv_aload_n hx hb dL_law_933 rfl (lv_at hl 1 rfl) ?_
    refine l_arg C hS (i := 8 * j) (k := 1) (by omega) (lv_at hl 0 rfl) (lv_at hl 4 rfl) (by decide) dL_law_934 dL_law_935 dL_law_937 dL_law_938 dL_law_939 ?_
    refine lv_aload_n hx hb dL_law_940 rfl (lv_at hl 3 rfl) ?_
    refine vl_calli (vx_runSX (As := [.ref (g 0 0), .int (xs (8 * j + 1)), .ref (h + 44)]) (rest := []) ⟨hx, hb, hml, hown, hts⟩ (x_pass l hst (D := D) (A := lA s.heap.size h) (cI := cI) (cO := cO) (cJ := cJ) (aE := aE) (o := h + 44) (g := g) (N := N) σ f (xs (8 * j + 1)) (KPz_of hR.1) (fun z => z.2 ⟨by omega, by omega⟩)) (vx_cwSW 3 hts gL_law_L_pass rfl rfl rfl (by decide +kernel) ⟨Nat.le_of_ble_eq_true rfl, Nat.le_of_ble_eq_true rfl⟩) ⟨wBl, fun U hU hW => ⟨rfl, lW_wW hs hS hw hh hU hW⟩⟩ rfl rfl hl.1 rfl (lv_room (Nat.le_of_ble_eq_true rfl)) dL_law_941 ⟨show _ ≤ 601024 by omega, show _ ≤ 7293034 by omega⟩) hS (fun q _ z => lA_foot hh z) (fun q z => lA_foot hh z) (fun k u t9 H locs ht9 hvm hp hB hz hk hS => ?_)
    have hw := lW_wB hw ht9 hB hk
    obtain ⟨e1, e2, ⟨t', ht', hR'⟩, hg', hc'⟩ := key_pass (xs (8 * j + 1)) (by omega) hN hR hp
    have hc2 : cn8 N (s_X5_pass σ (xs (8 * j + 1))) ≤ cn8 u.1.2.1 u.1.2.2 := by
      rcases hp with ⟨z0, _, ⟨_, zn, zs⟩, _⟩ | ⟨z0, _, _⟩
      · rw [zn, zs]; exact Nat.le_refl _
      · exact absurd (if_pos hv) z0
    refine lv_istore (lv' := [(5, .int k), (0, .ref b), (1, .ref (g 0 0)), (2, .ref h), (3, .ref (h + 44)), (4, .int (nI (8 * j)))]) hx hb dL_law_944 hl (by decide) rfl (fun ls hl => ?_)
    refine lv_aload_n hx hb dL_law_946 rfl (lv_at hl 3 rfl) ?_
    refine l_arg C hS (i := 8 * j) (k := 1) (by omega) (lv_at hl 1 rfl) (lv_at hl 5 rfl) (by decide) dL_law_947 dL_law_948 dL_law_950 dL_law_951 dL_law_952 ?_
    refine lm_calli C hs hh hw hS (As := [.int (xs (8 * j + 1))]) (rest := []) (c_pass l mA_44 μ (xs (8 * j + 1)) hR.2.1) (cwV 1 hts gL_law_X6_pass rfl rfl rfl (by decide +kernel) ⟨Nat.le_of_ble_eq_true rfl, Nat.le_of_ble_eq_true rfl⟩) rfl hl.1 rfl (Nat.le_of_ble_eq_true rfl) dL_law_953 ⟨show _ ≤ 601024 by omega, show _ ≤ 7293034 by omega⟩ (fun H locs hw hS => ?_)
    refine l_tail C hs hh hw hS hl e1 e2 ⟨show _ ≤ 601024 by omega, show _ ≤ 7293034 by omega⟩ dL_law_956 dL_law_958 dL_law_959 dL_law_962 dL_law_964 dL_law_969 dL_law_971 dL_law_974 dL_law_975 dL_law_976 dL_law_977 dL_law_979 dL_law_980 dL_law_981 dL_law_986 (by decide) (fun H locs ls hw hS hl => ?_)
    refine W.widen (k := 60 + 20 * (j + 1) + 2 * cn8 u.1.2.1 u.1.2.2) (n := 4000 + 300 * (j + 1) + 300 * cn8 u.1.2.1 u.1.2.2) (by omega) (by omega) ?_
    exact kk _ _ _ _ _ _ _ _ _ hg' (by omega) hw hR' hS hl
  · refine lv_aload_n hx hb dL_law_933 rfl (lv_at hl 1 rfl) ?_
    refine l_arg C hS (i := 8 * j) (k := 1) (by omega) (lv_at hl 0 rfl) (lv_at hl 4 rfl) (by decide) dL_law_934 dL_law_935 dL_law_937 dL_law_938 dL_law_939 ?_
    refine lv_aload_n hx hb dL_law_940 rfl (lv_at hl 3 rfl) ?_
    refine vl_calli (vx_runSX (As := [.ref (g 0 0), .int (xs (8 * j + 1)), .ref (h + 44)]) (rest := []) ⟨hx, hb, hml, hown, hts⟩ (x_passB l hst (D := D) (A := lA s.heap.size h) (cI := cI) (cO := cO) (cJ := cJ) (aE := aE) (o := h + 44) (g := g) (N := N) σ f (xs (8 * j + 1)) hv (fun z => z.2 ⟨by omega, by omega⟩)) (vx_cwSW 3 hts gL_law_L_pass rfl rfl rfl (by decide +kernel) ⟨Nat.le_of_ble_eq_true rfl, Nat.le_of_ble_eq_true rfl⟩) ⟨wBl, fun U hU hW => ⟨rfl, lW_wW hs hS hw hh hU hW⟩⟩ rfl rfl hl.1 rfl (lv_room (Nat.le_of_ble_eq_true rfl)) dL_law_941 ⟨show _ ≤ 601024 by omega, show _ ≤ 7293034 by omega⟩) hS (fun q _ z => lA_foot hh z) (fun q z => lA_foot hh z) (fun k u t9 H locs ht9 hvm hp hB hz hk hS => ?_)
    have hw := lW_wB hw ht9 hB hk
    obtain ⟨e1, e2, ⟨t', ht', hR'⟩, hg', hc'⟩ := key_pass (xs (8 * j + 1)) (by omega) hN hR hp
    refine lv_istore (lv' := [(5, .int k), (0, .ref b), (1, .ref (g 0 0)), (2, .ref h), (3, .ref (h + 44)), (4, .int (nI (8 * j)))]) hx hb dL_law_944 hl (by decide) rfl (fun ls hl => ?_)
    refine lv_aload_n hx hb dL_law_946 rfl (lv_at hl 3 rfl) ?_
    refine l_arg C hS (i := 8 * j) (k := 1) (by omega) (lv_at hl 1 rfl) (lv_at hl 5 rfl) (by decide) dL_law_947 dL_law_948 dL_law_950 dL_law_951 dL_law_952 ?_
    refine lm_calli C hs hh hw hS (As := [.int (xs (8 * j + 1))]) (rest := []) (c_pass l mA_44 μ (xs (8 * j + 1)) hR.2.1) (cwV 1 hts gL_law_X6_pass rfl rfl rfl (by decide +kernel) ⟨Nat.le_of_ble_eq_true rfl, Nat.le_of_ble_eq_true rfl⟩) rfl hl.1 rfl (Nat.le_of_ble_eq_true rfl) dL_law_953 ⟨show _ ≤ 601024 by omega, show _ ≤ 7293034 by omega⟩ (fun H locs hw hS => ?_)
    refine l_tail C hs hh hw hS hl e1 e2 ⟨show _ ≤ 601024 by omega, show _ ≤ 7293034 by omega⟩ dL_law_956 dL_law_958 dL_law_959 dL_law_962 dL_law_964 dL_law_969 dL_law_971 dL_law_974 dL_law_975 dL_law_976 dL_law_977 dL_law_979 dL_law_980 dL_law_981 dL_law_986 (by decide) (fun H locs ls hw hS hl => ?_)
    refine W.widen (k := 60 + 20 * (j + 1) + 2 * cn8 u.1.2.1 u.1.2.2) (n := 4000 + 300 * (j + 1) + 300 * cn8 u.1.2.1 u.1.2.2) (by omega) (by omega) ?_
    exact kk _ _ _ _ _ _ _ _ _ hg' (by omega) hw hR' hS hl
set_option maxHeartbeats 4000000 in
set_option maxRecDepth 100000 in
theorem law_tide (hst : l.stackTraces = false) (C : lE p s m c b L xs) (hs : lS D cI cO cZ cJ aE s) (hh : s.heap.size ≤ h) (hj : 8 * j + 8 ≤ L) (ht : t ≤ 1500 * j) (hw : lW D cI cO cZ cJ (lA s.heap.size h) aE h g N σ f μ H) (hR : lR N t σ μ) (hS : va_S (fun q => s.heap.size ≤ q) s.heap H locs) (hl : lv_has ls 9 [(0, .ref b), (1, .ref (g 0 0)), (2, .ref h), (3, .ref (h + 44)), (4, .int (nI (8 * j)))]) (kk : lNx p l e s m below meth c Q D cI cO cZ cJ aE h b j (g 0 0)) : W p l e room_1 s m #[Value.ref b] below meth c H locs (60 + 20 * j + 2 * cn8 N σ) (4000 + 300 * j + 300 * cn8 N σ) Q (F0 m 989 ls []) := by
  obtain ⟨hx, hb, hml, hown, hts, hX, hbl, hL⟩ := id C
  obtain ⟨ga, cap, hgi, hki, hcp⟩ := id hw.1
  have hN := hki.1
  have hc8 := cn8_le hN σ
  refine lv_aload_n hx hb dL_law_989 rfl (lv_at hl 1 rfl) ?_
  refine l_arg C hS (i := 8 * j) (k := 1) (by omega) (lv_at hl 0 rfl) (lv_at hl 4 rfl) (by decide) dL_law_990 dL_law_991 dL_law_993 dL_law_994 dL_law_995 ?_
  refine l_arg C hS (i := 8 * j) (k := 2) (by omega) (lv_at hl 0 rfl) (lv_at hl 4 rfl) (by decide) dL_law_996 dL_law_997 dL_law_999 dL_law_1000 dL_law_1001 ?_
  refine lv_aload_n hx hb dL_law_1002 rfl (lv_at hl 3 rfl) ?_
  refine vl_calli (vx_runSX (As := [.ref (g 0 0), .int (xs (8 * j + 1)), .int (xs (8 * j + 2)), .ref (h + 44)]) (rest := []) ⟨hx, hb, hml, hown, hts⟩ (x_tide l hst (D := D) (A := lA s.heap.size h) (cI := cI) (cO := cO) (cJ := cJ) (aE := aE) (o := h + 44) (g := g) (N := N) σ f (xs (8 * j + 1)) (xs (8 * j + 2))  (fun z => z.2 ⟨by omega, by omega⟩)) (vx_cwSW 4 hts gL_law_L_tide rfl rfl rfl (by decide +kernel) ⟨Nat.le_of_ble_eq_true rfl, Nat.le_of_ble_eq_true rfl⟩) ⟨wBl, fun U hU hW => ⟨rfl, lW_wW hs hS hw hh hU hW⟩⟩ rfl rfl hl.1 rfl (lv_room (Nat.le_of_ble_eq_true rfl)) dL_law_1003 ⟨show _ ≤ 601024 by omega, show _ ≤ 7293034 by omega⟩) hS (fun q _ z => lA_foot hh z) (fun q z => lA_foot hh z) (fun k u t9 H locs ht9 hvm hp hB hz hk hS => ?_)
  have hw := lW_wB hw ht9 hB hk
  obtain ⟨e1, e2, ⟨t', ht', hR'⟩, hg', hc'⟩ := key_tide (xs (8 * j + 1)) (xs (8 * j + 2))  hN hR hp
  refine lv_istore (lv' := [(5, .int k), (0, .ref b), (1, .ref (g 0 0)), (2, .ref h), (3, .ref (h + 44)), (4, .int (nI (8 * j)))]) hx hb dL_law_1006 hl (by decide) rfl (fun ls hl => ?_)
  refine lv_aload_n hx hb dL_law_1008 rfl (lv_at hl 3 rfl) ?_
  refine l_arg C hS (i := 8 * j) (k := 1) (by omega) (lv_at hl 1 rfl) (lv_at hl 5 rfl) (by decide) dL_law_1009 dL_law_1010 dL_law_1012 dL_law_1013 dL_law_1014 ?_
  refine l_arg C hS (i := 8 * j) (k := 2) (by omega) (lv_at hl 1 rfl) (lv_at hl 5 rfl) (by decide) dL_law_1015 dL_law_1016 dL_law_1018 dL_law_1019 dL_law_1020 ?_
  refine lm_calli C hs hh hw hS (As := [.int (xs (8 * j + 1)), .int (xs (8 * j + 2))]) (rest := []) (c_tide l mA_44 μ (xs (8 * j + 1)) (xs (8 * j + 2)) hR.2.1) (cwV 2 hts gL_law_X6_tide rfl rfl rfl (by decide +kernel) ⟨Nat.le_of_ble_eq_true rfl, Nat.le_of_ble_eq_true rfl⟩) rfl hl.1 rfl (Nat.le_of_ble_eq_true rfl) dL_law_1021 ⟨show _ ≤ 601024 by omega, show _ ≤ 7293034 by omega⟩ (fun H locs hw hS => ?_)
  refine l_tail C hs hh hw hS hl e1 e2 ⟨show _ ≤ 601024 by omega, show _ ≤ 7293034 by omega⟩ dL_law_1024 dL_law_1026 dL_law_1027 dL_law_1030 dL_law_1032 dL_law_1037 dL_law_1039 dL_law_1042 dL_law_1043 dL_law_1044 dL_law_1045 dL_law_1047 dL_law_1048 dL_law_1049 dL_law_1054 (by decide) (fun H locs ls hw hS hl => ?_)
  refine W.widen (k := 60 + 20 * (j + 1) + 2 * cn8 u.1.2.1 u.1.2.2) (n := 4000 + 300 * (j + 1) + 300 * cn8 u.1.2.1 u.1.2.2) (by omega) (by omega) ?_
  exact kk _ _ _ _ _ _ _ _ _ hg' (by omega) hw hR' hS hl
set_option maxHeartbeats 4000000 in
set_option maxRecDepth 100000 in
theorem law_boatOf (hst : l.stackTraces = false) (C : lE p s m c b L xs) (hs : lS D cI cO cZ cJ aE s) (hh : s.heap.size ≤ h) (hj : 8 * j + 8 ≤ L) (ht : t ≤ 1500 * j) (hw : lW D cI cO cZ cJ (lA s.heap.size h) aE h g N σ f μ H) (hR : lR N t σ μ) (hS : va_S (fun q => s.heap.size ≤ q) s.heap H locs) (hl : lv_has ls 9 [(0, .ref b), (1, .ref (g 0 0)), (2, .ref h), (3, .ref (h + 44)), (4, .int (nI (8 * j)))]) (kk : lNx p l e s m below meth c Q D cI cO cZ cJ aE h b j (g 0 0)) : W p l e room_1 s m #[Value.ref b] below meth c H locs (60 + 20 * j + 2 * cn8 N σ) (4000 + 300 * j + 300 * cn8 N σ) Q (F0 m 1057 ls []) := by
  obtain ⟨hx, hb, hml, hown, hts, hX, hbl, hL⟩ := id C
  obtain ⟨ga, cap, hgi, hki, hcp⟩ := id hw.1
  have hN := hki.1
  have hc8 := cn8_le hN σ
  refine lv_aload_n hx hb dL_law_1057 rfl (lv_at hl 1 rfl) ?_
  refine l_arg C hS (i := 8 * j) (k := 1) (by omega) (lv_at hl 0 rfl) (lv_at hl 4 rfl) (by decide) dL_law_1058 dL_law_1059 dL_law_1061 dL_law_1062 dL_law_1063 ?_
  refine l_arg C hS (i := 8 * j) (k := 2) (by omega) (lv_at hl 0 rfl) (lv_at hl 4 rfl) (by decide) dL_law_1064 dL_law_1065 dL_law_1067 dL_law_1068 dL_law_1069 ?_
  refine lv_aload_n hx hb dL_law_1070 rfl (lv_at hl 3 rfl) ?_
  refine vl_calli (vx_runSX (As := [.ref (g 0 0), .int (xs (8 * j + 1)), .int (xs (8 * j + 2)), .ref (h + 44)]) (rest := []) ⟨hx, hb, hml, hown, hts⟩ (x_boatOf l hst (D := D) (A := lA s.heap.size h) (cI := cI) (cO := cO) (cJ := cJ) (aE := aE) (o := h + 44) (g := g) (N := N) σ f (xs (8 * j + 1)) (xs (8 * j + 2))  (fun z => z.2 ⟨by omega, by omega⟩)) (vx_cwSW 4 hts gL_law_L_boatOf rfl rfl rfl (by decide +kernel) ⟨Nat.le_of_ble_eq_true rfl, Nat.le_of_ble_eq_true rfl⟩) ⟨wBl, fun U hU hW => ⟨rfl, lW_wW hs hS hw hh hU hW⟩⟩ rfl rfl hl.1 rfl (lv_room (Nat.le_of_ble_eq_true rfl)) dL_law_1071 ⟨show _ ≤ 601024 by omega, show _ ≤ 7293034 by omega⟩) hS (fun q _ z => lA_foot hh z) (fun q z => lA_foot hh z) (fun k u t9 H locs ht9 hvm hp hB hz hk hS => ?_)
  have hw := lW_wB hw ht9 hB hk
  obtain ⟨e1, e2, ⟨t', ht', hR'⟩, hg', hc'⟩ := key_boatOf (xs (8 * j + 1)) (xs (8 * j + 2))  hN hR hp
  refine lv_istore (lv' := [(5, .int k), (0, .ref b), (1, .ref (g 0 0)), (2, .ref h), (3, .ref (h + 44)), (4, .int (nI (8 * j)))]) hx hb dL_law_1074 hl (by decide) rfl (fun ls hl => ?_)
  refine lv_aload_n hx hb dL_law_1076 rfl (lv_at hl 3 rfl) ?_
  refine l_arg C hS (i := 8 * j) (k := 1) (by omega) (lv_at hl 1 rfl) (lv_at hl 5 rfl) (by decide) dL_law_1077 dL_law_1078 dL_law_1080 dL_law_1081 dL_law_1082 ?_
  refine l_arg C hS (i := 8 * j) (k := 2) (by omega) (lv_at hl 1 rfl) (lv_at hl 5 rfl) (by decide) dL_law_1083 dL_law_1084 dL_law_1086 dL_law_1087 dL_law_1088 ?_
  refine lm_calli C hs hh hw hS (As := [.int (xs (8 * j + 1)), .int (xs (8 * j + 2))]) (rest := []) (c_boatOf l mA_44 μ (xs (8 * j + 1)) (xs (8 * j + 2)) hR.2.1) (cwV 2 hts gL_law_X6_boatOf rfl rfl rfl (by decide +kernel) ⟨Nat.le_of_ble_eq_true rfl, Nat.le_of_ble_eq_true rfl⟩) rfl hl.1 rfl (Nat.le_of_ble_eq_true rfl) dL_law_1089 ⟨show _ ≤ 601024 by omega, show _ ≤ 7293034 by omega⟩ (fun H locs hw hS => ?_)
  refine l_tail C hs hh hw hS hl e1 e2 ⟨show _ ≤ 601024 by omega, show _ ≤ 7293034 by omega⟩ dL_law_1092 dL_law_1094 dL_law_1095 dL_law_1098 dL_law_1100 dL_law_1105 dL_law_1107 dL_law_1110 dL_law_1111 dL_law_1112 dL_law_1113 dL_law_1115 dL_law_1116 dL_law_1117 dL_law_1122 (by decide) (fun H locs ls hw hS hl => ?_)
  refine W.widen (k := 60 + 20 * (j + 1) + 2 * cn8 u.1.2.1 u.1.2.2) (n := 4000 + 300 * (j + 1) + 300 * cn8 u.1.2.1 u.1.2.2) (by omega) (by omega) ?_
  exact kk _ _ _ _ _ _ _ _ _ hg' (by omega) hw hR' hS hl
set_option maxHeartbeats 4000000 in
set_option maxRecDepth 100000 in
theorem law_sailingOf (hst : l.stackTraces = false) (C : lE p s m c b L xs) (hs : lS D cI cO cZ cJ aE s) (hh : s.heap.size ≤ h) (hj : 8 * j + 8 ≤ L) (ht : t ≤ 1500 * j) (hw : lW D cI cO cZ cJ (lA s.heap.size h) aE h g N σ f μ H) (hR : lR N t σ μ) (hS : va_S (fun q => s.heap.size ≤ q) s.heap H locs) (hl : lv_has ls 9 [(0, .ref b), (1, .ref (g 0 0)), (2, .ref h), (3, .ref (h + 44)), (4, .int (nI (8 * j)))]) (kk : lNx p l e s m below meth c Q D cI cO cZ cJ aE h b j (g 0 0)) : W p l e room_1 s m #[Value.ref b] below meth c H locs (60 + 20 * j + 2 * cn8 N σ) (4000 + 300 * j + 300 * cn8 N σ) Q (F0 m 1125 ls []) := by
  obtain ⟨hx, hb, hml, hown, hts, hX, hbl, hL⟩ := id C
  obtain ⟨ga, cap, hgi, hki, hcp⟩ := id hw.1
  have hN := hki.1
  have hc8 := cn8_le hN σ
  refine lv_aload_n hx hb dL_law_1125 rfl (lv_at hl 1 rfl) ?_
  refine l_arg C hS (i := 8 * j) (k := 1) (by omega) (lv_at hl 0 rfl) (lv_at hl 4 rfl) (by decide) dL_law_1126 dL_law_1127 dL_law_1129 dL_law_1130 dL_law_1131 ?_
  refine l_arg C hS (i := 8 * j) (k := 2) (by omega) (lv_at hl 0 rfl) (lv_at hl 4 rfl) (by decide) dL_law_1132 dL_law_1133 dL_law_1135 dL_law_1136 dL_law_1137 ?_
  refine lv_aload_n hx hb dL_law_1138 rfl (lv_at hl 3 rfl) ?_
  refine vl_calli (vx_runSX (As := [.ref (g 0 0), .int (xs (8 * j + 1)), .int (xs (8 * j + 2)), .ref (h + 44)]) (rest := []) ⟨hx, hb, hml, hown, hts⟩ (x_sailingOf l hst (D := D) (A := lA s.heap.size h) (cI := cI) (cO := cO) (cJ := cJ) (aE := aE) (o := h + 44) (g := g) (N := N) σ f (xs (8 * j + 1)) (xs (8 * j + 2))  (fun z => z.2 ⟨by omega, by omega⟩)) (vx_cwSW 4 hts gL_law_L_sailingOf rfl rfl rfl (by decide +kernel) ⟨Nat.le_of_ble_eq_true rfl, Nat.le_of_ble_eq_true rfl⟩) ⟨wBl, fun U hU hW => ⟨rfl, lW_wW hs hS hw hh hU hW⟩⟩ rfl rfl hl.1 rfl (lv_room (Nat.le_of_ble_eq_true rfl)) dL_law_1139 ⟨show _ ≤ 601024 by omega, show _ ≤ 7293034 by omega⟩) hS (fun q _ z => lA_foot hh z) (fun q z => lA_foot hh z) (fun k u t9 H locs ht9 hvm hp hB hz hk hS => ?_)
  have hw := lW_wB hw ht9 hB hk
  obtain ⟨e1, e2, ⟨t', ht', hR'⟩, hg', hc'⟩ := key_sailingOf (xs (8 * j + 1)) (xs (8 * j + 2))  hN hR hp
  refine lv_istore (lv' := [(5, .int k), (0, .ref b), (1, .ref (g 0 0)), (2, .ref h), (3, .ref (h + 44)), (4, .int (nI (8 * j)))]) hx hb dL_law_1142 hl (by decide) rfl (fun ls hl => ?_)
  refine lv_aload_n hx hb dL_law_1144 rfl (lv_at hl 3 rfl) ?_
  refine l_arg C hS (i := 8 * j) (k := 1) (by omega) (lv_at hl 1 rfl) (lv_at hl 5 rfl) (by decide) dL_law_1145 dL_law_1146 dL_law_1148 dL_law_1149 dL_law_1150 ?_
  refine l_arg C hS (i := 8 * j) (k := 2) (by omega) (lv_at hl 1 rfl) (lv_at hl 5 rfl) (by decide) dL_law_1151 dL_law_1152 dL_law_1154 dL_law_1155 dL_law_1156 ?_
  refine lm_calli C hs hh hw hS (As := [.int (xs (8 * j + 1)), .int (xs (8 * j + 2))]) (rest := []) (c_sailingOf l mA_44 μ (xs (8 * j + 1)) (xs (8 * j + 2)) hR.2.1) (cwV 2 hts gL_law_X6_sailingOf rfl rfl rfl (by decide +kernel) ⟨Nat.le_of_ble_eq_true rfl, Nat.le_of_ble_eq_true rfl⟩) rfl hl.1 rfl (Nat.le_of_ble_eq_true rfl) dL_law_1157 ⟨show _ ≤ 601024 by omega, show _ ≤ 7293034 by omega⟩ (fun H locs hw hS => ?_)
  refine l_tail C hs hh hw hS hl e1 e2 ⟨show _ ≤ 601024 by omega, show _ ≤ 7293034 by omega⟩ dL_law_1160 dL_law_1162 dL_law_1163 dL_law_1166 dL_law_1168 dL_law_1173 dL_law_1175 dL_law_1178 dL_law_1179 dL_law_1180 dL_law_1181 dL_law_1183 dL_law_1184 dL_law_1185 dL_law_1190 (by decide) (fun H locs ls hw hS hl => ?_)
  refine W.widen (k := 60 + 20 * (j + 1) + 2 * cn8 u.1.2.1 u.1.2.2) (n := 4000 + 300 * (j + 1) + 300 * cn8 u.1.2.1 u.1.2.2) (by omega) (by omega) ?_
  exact kk _ _ _ _ _ _ _ _ _ hg' (by omega) hw hR' hS hl
set_option maxHeartbeats 4000000 in
set_option maxRecDepth 100000 in
theorem law_against (hst : l.stackTraces = false) (C : lE p s m c b L xs) (hs : lS D cI cO cZ cJ aE s) (hh : s.heap.size ≤ h) (hj : 8 * j + 8 ≤ L) (ht : t ≤ 1500 * j) (hw : lW D cI cO cZ cJ (lA s.heap.size h) aE h g N σ f μ H) (hR : lR N t σ μ) (hS : va_S (fun q => s.heap.size ≤ q) s.heap H locs) (hl : lv_has ls 9 [(0, .ref b), (1, .ref (g 0 0)), (2, .ref h), (3, .ref (h + 44)), (4, .int (nI (8 * j)))]) (kk : lNx p l e s m below meth c Q D cI cO cZ cJ aE h b j (g 0 0)) : W p l e room_1 s m #[Value.ref b] below meth c H locs (60 + 20 * j + 2 * cn8 N σ) (4000 + 300 * j + 300 * cn8 N σ) Q (F0 m 1193 ls []) := by
  obtain ⟨hx, hb, hml, hown, hts, hX, hbl, hL⟩ := id C
  obtain ⟨ga, cap, hgi, hki, hcp⟩ := id hw.1
  have hN := hki.1
  have hc8 := cn8_le hN σ
  refine lv_aload_n hx hb dL_law_1193 rfl (lv_at hl 1 rfl) ?_
  refine l_arg C hS (i := 8 * j) (k := 1) (by omega) (lv_at hl 0 rfl) (lv_at hl 4 rfl) (by decide) dL_law_1194 dL_law_1195 dL_law_1197 dL_law_1198 dL_law_1199 ?_
  refine lv_aload_n hx hb dL_law_1200 rfl (lv_at hl 3 rfl) ?_
  refine vl_calli (vx_runSX (As := [.ref (g 0 0), .int (xs (8 * j + 1)), .ref (h + 44)]) (rest := []) ⟨hx, hb, hml, hown, hts⟩ (x_against l hst (D := D) (A := lA s.heap.size h) (cI := cI) (cO := cO) (cJ := cJ) (aE := aE) (o := h + 44) (g := g) (N := N) σ f (xs (8 * j + 1))  (fun z => z.2 ⟨by omega, by omega⟩)) (vx_cwSW 3 hts gL_law_L_against rfl rfl rfl (by decide +kernel) ⟨Nat.le_of_ble_eq_true rfl, Nat.le_of_ble_eq_true rfl⟩) ⟨wBl, fun U hU hW => ⟨rfl, lW_wW hs hS hw hh hU hW⟩⟩ rfl rfl hl.1 rfl (lv_room (Nat.le_of_ble_eq_true rfl)) dL_law_1201 ⟨show _ ≤ 601024 by omega, show _ ≤ 7293034 by omega⟩) hS (fun q _ z => lA_foot hh z) (fun q z => lA_foot hh z) (fun k u t9 H locs ht9 hvm hp hB hz hk hS => ?_)
  have hw := lW_wB hw ht9 hB hk
  obtain ⟨e1, e2, ⟨t', ht', hR'⟩, hg', hc'⟩ := key_against (xs (8 * j + 1))  hN hR hp
  refine lv_istore (lv' := [(5, .int k), (0, .ref b), (1, .ref (g 0 0)), (2, .ref h), (3, .ref (h + 44)), (4, .int (nI (8 * j)))]) hx hb dL_law_1204 hl (by decide) rfl (fun ls hl => ?_)
  refine lv_aload_n hx hb dL_law_1206 rfl (lv_at hl 3 rfl) ?_
  refine l_arg C hS (i := 8 * j) (k := 1) (by omega) (lv_at hl 1 rfl) (lv_at hl 5 rfl) (by decide) dL_law_1207 dL_law_1208 dL_law_1210 dL_law_1211 dL_law_1212 ?_
  refine lm_calli C hs hh hw hS (As := [.int (xs (8 * j + 1))]) (rest := []) (c_against l mA_44 μ (xs (8 * j + 1)) hR.2.1) (cwV 1 hts gL_law_X6_against rfl rfl rfl (by decide +kernel) ⟨Nat.le_of_ble_eq_true rfl, Nat.le_of_ble_eq_true rfl⟩) rfl hl.1 rfl (Nat.le_of_ble_eq_true rfl) dL_law_1213 ⟨show _ ≤ 601024 by omega, show _ ≤ 7293034 by omega⟩ (fun H locs hw hS => ?_)
  refine l_tail C hs hh hw hS hl e1 e2 ⟨show _ ≤ 601024 by omega, show _ ≤ 7293034 by omega⟩ dL_law_1216 dL_law_1218 dL_law_1219 dL_law_1222 dL_law_1224 dL_law_1229 dL_law_1231 dL_law_1234 dL_law_1235 dL_law_1236 dL_law_1237 dL_law_1239 dL_law_1240 dL_law_1241 dL_law_1246 (by decide) (fun H locs ls hw hS hl => ?_)
  refine W.widen (k := 60 + 20 * (j + 1) + 2 * cn8 u.1.2.1 u.1.2.2) (n := 4000 + 300 * (j + 1) + 300 * cn8 u.1.2.1 u.1.2.2) (by omega) (by omega) ?_
  exact kk _ _ _ _ _ _ _ _ _ hg' (by omega) hw hR' hS hl
set_option maxHeartbeats 4000000 in
set_option maxRecDepth 100000 in
theorem law_bookingOf (hst : l.stackTraces = false) (C : lE p s m c b L xs) (hs : lS D cI cO cZ cJ aE s) (hh : s.heap.size ≤ h) (hj : 8 * j + 8 ≤ L) (ht : t ≤ 1500 * j) (hw : lW D cI cO cZ cJ (lA s.heap.size h) aE h g N σ f μ H) (hR : lR N t σ μ) (hS : va_S (fun q => s.heap.size ≤ q) s.heap H locs) (hl : lv_has ls 9 [(0, .ref b), (1, .ref (g 0 0)), (2, .ref h), (3, .ref (h + 44)), (4, .int (nI (8 * j)))]) (kk : lNx p l e s m below meth c Q D cI cO cZ cJ aE h b j (g 0 0)) : W p l e room_1 s m #[Value.ref b] below meth c H locs (60 + 20 * j + 2 * cn8 N σ) (4000 + 300 * j + 300 * cn8 N σ) Q (F0 m 1249 ls []) := by
  obtain ⟨hx, hb, hml, hown, hts, hX, hbl, hL⟩ := id C
  obtain ⟨ga, cap, hgi, hki, hcp⟩ := id hw.1
  have hN := hki.1
  have hc8 := cn8_le hN σ
  refine lv_aload_n hx hb dL_law_1249 rfl (lv_at hl 1 rfl) ?_
  refine l_arg C hS (i := 8 * j) (k := 1) (by omega) (lv_at hl 0 rfl) (lv_at hl 4 rfl) (by decide) dL_law_1250 dL_law_1251 dL_law_1253 dL_law_1254 dL_law_1255 ?_
  refine l_arg C hS (i := 8 * j) (k := 2) (by omega) (lv_at hl 0 rfl) (lv_at hl 4 rfl) (by decide) dL_law_1256 dL_law_1257 dL_law_1259 dL_law_1260 dL_law_1261 ?_
  refine lv_aload_n hx hb dL_law_1262 rfl (lv_at hl 3 rfl) ?_
  refine vl_calli (vx_runSX (As := [.ref (g 0 0), .int (xs (8 * j + 1)), .int (xs (8 * j + 2)), .ref (h + 44)]) (rest := []) ⟨hx, hb, hml, hown, hts⟩ (x_bookingOf l hst (D := D) (A := lA s.heap.size h) (cI := cI) (cO := cO) (cJ := cJ) (aE := aE) (o := h + 44) (g := g) (N := N) σ f (xs (8 * j + 1)) (xs (8 * j + 2))  (fun z => z.2 ⟨by omega, by omega⟩)) (vx_cwSW 4 hts gL_law_L_bookingOf rfl rfl rfl (by decide +kernel) ⟨Nat.le_of_ble_eq_true rfl, Nat.le_of_ble_eq_true rfl⟩) ⟨wBl, fun U hU hW => ⟨rfl, lW_wW hs hS hw hh hU hW⟩⟩ rfl rfl hl.1 rfl (lv_room (Nat.le_of_ble_eq_true rfl)) dL_law_1263 ⟨show _ ≤ 601024 by omega, show _ ≤ 7293034 by omega⟩) hS (fun q _ z => lA_foot hh z) (fun q z => lA_foot hh z) (fun k u t9 H locs ht9 hvm hp hB hz hk hS => ?_)
  have hw := lW_wB hw ht9 hB hk
  obtain ⟨e1, e2, ⟨t', ht', hR'⟩, hg', hc'⟩ := key_bookingOf (xs (8 * j + 1)) (xs (8 * j + 2))  hN hR hp
  refine lv_istore (lv' := [(5, .int k), (0, .ref b), (1, .ref (g 0 0)), (2, .ref h), (3, .ref (h + 44)), (4, .int (nI (8 * j)))]) hx hb dL_law_1266 hl (by decide) rfl (fun ls hl => ?_)
  refine lv_aload_n hx hb dL_law_1268 rfl (lv_at hl 3 rfl) ?_
  refine l_arg C hS (i := 8 * j) (k := 1) (by omega) (lv_at hl 1 rfl) (lv_at hl 5 rfl) (by decide) dL_law_1269 dL_law_1270 dL_law_1272 dL_law_1273 dL_law_1274 ?_
  refine l_arg C hS (i := 8 * j) (k := 2) (by omega) (lv_at hl 1 rfl) (lv_at hl 5 rfl) (by decide) dL_law_1275 dL_law_1276 dL_law_1278 dL_law_1279 dL_law_1280 ?_
  refine lm_calli C hs hh hw hS (As := [.int (xs (8 * j + 1)), .int (xs (8 * j + 2))]) (rest := []) (c_bookingOf l mA_44 μ (xs (8 * j + 1)) (xs (8 * j + 2)) hR.2.1) (cwV 2 hts gL_law_X6_bookingOf rfl rfl rfl (by decide +kernel) ⟨Nat.le_of_ble_eq_true rfl, Nat.le_of_ble_eq_true rfl⟩) rfl hl.1 rfl (Nat.le_of_ble_eq_true rfl) dL_law_1281 ⟨show _ ≤ 601024 by omega, show _ ≤ 7293034 by omega⟩ (fun H locs hw hS => ?_)
  refine l_tail C hs hh hw hS hl e1 e2 ⟨show _ ≤ 601024 by omega, show _ ≤ 7293034 by omega⟩ dL_law_1284 dL_law_1286 dL_law_1287 dL_law_1290 dL_law_1292 dL_law_1297 dL_law_1299 dL_law_1302 dL_law_1303 dL_law_1304 dL_law_1305 dL_law_1307 dL_law_1308 dL_law_1309 dL_law_1314 (by decide) (fun H locs ls hw hS hl => ?_)
  refine W.widen (k := 60 + 20 * (j + 1) + 2 * cn8 u.1.2.1 u.1.2.2) (n := 4000 + 300 * (j + 1) + 300 * cn8 u.1.2.1 u.1.2.2) (by omega) (by omega) ?_
  exact kk _ _ _ _ _ _ _ _ _ hg' (by omega) hw hR' hS hl
set_option maxHeartbeats 4000000 in
set_option maxRecDepth 100000 in
theorem law_plan (hst : l.stackTraces = false) (C : lE p s m c b L xs) (hs : lS D cI cO cZ cJ aE s) (hh : s.heap.size ≤ h) (hj : 8 * j + 8 ≤ L) (ht : t ≤ 1500 * j) (hw : lW D cI cO cZ cJ (lA s.heap.size h) aE h g N σ f μ H) (hR : lR N t σ μ) (hS : va_S (fun q => s.heap.size ≤ q) s.heap H locs) (hl : lv_has ls 9 [(0, .ref b), (1, .ref (g 0 0)), (2, .ref h), (3, .ref (h + 44)), (4, .int (nI (8 * j)))]) (kk : lNx p l e s m below meth c Q D cI cO cZ cJ aE h b j (g 0 0)) : W p l e room_1 s m #[Value.ref b] below meth c H locs (60 + 20 * j + 2 * cn8 N σ) (4000 + 300 * j + 300 * cn8 N σ) Q (F0 m 1317 ls []) := by
  obtain ⟨hx, hb, hml, hown, hts, hX, hbl, hL⟩ := id C
  obtain ⟨ga, cap, hgi, hki, hcp⟩ := id hw.1
  have hN := hki.1
  have hc8 := cn8_le hN σ
  refine lv_aload_n hx hb dL_law_1317 rfl (lv_at hl 1 rfl) ?_
  refine l_arg C hS (i := 8 * j) (k := 1) (by omega) (lv_at hl 0 rfl) (lv_at hl 4 rfl) (by decide) dL_law_1318 dL_law_1319 dL_law_1321 dL_law_1322 dL_law_1323 ?_
  refine l_arg C hS (i := 8 * j) (k := 2) (by omega) (lv_at hl 0 rfl) (lv_at hl 4 rfl) (by decide) dL_law_1324 dL_law_1325 dL_law_1327 dL_law_1328 dL_law_1329 ?_
  refine l_arg C hS (i := 8 * j) (k := 3) (by omega) (lv_at hl 0 rfl) (lv_at hl 4 rfl) (by decide) dL_law_1330 dL_law_1331 dL_law_1333 dL_law_1334 dL_law_1335 ?_
  refine l_bool C dL_law_1336 dL_law_1339 dL_law_1340 dL_law_1343 ?_
  refine lv_aload_n hx hb dL_law_1344 rfl (lv_at hl 3 rfl) ?_
  refine vl_calli (vx_runSX (As := [.ref (g 0 0), .int (xs (8 * j + 1)), .int (xs (8 * j + 2)), .int (bz (xs (8 * j + 3))), .ref (h + 44)]) (rest := []) ⟨hx, hb, hml, hown, hts⟩ (x_plan l hst (D := D) (A := lA s.heap.size h) (cI := cI) (cO := cO) (cJ := cJ) (aE := aE) (o := h + 44) (g := g) (N := N) σ f (xs (8 * j + 1)) (xs (8 * j + 2)) (bz (xs (8 * j + 3)))  (fun z => z.2 ⟨by omega, by omega⟩)) (vx_cwSW 5 hts gL_law_L_plan rfl rfl rfl (by decide +kernel) ⟨Nat.le_of_ble_eq_true rfl, Nat.le_of_ble_eq_true rfl⟩) ⟨wBl, fun U hU hW => ⟨rfl, lW_wW hs hS hw hh hU hW⟩⟩ rfl rfl hl.1 rfl (lv_room (Nat.le_of_ble_eq_true rfl)) dL_law_1345 ⟨show _ ≤ 601024 by omega, show _ ≤ 7293034 by omega⟩) hS (fun q _ z => lA_foot hh z) (fun q z => lA_foot hh z) (fun k u t9 H locs ht9 hvm hp hB hz hk hS => ?_)
  have hw := lW_wB hw ht9 hB hk
  obtain ⟨e1, e2, ⟨t', ht', hR'⟩, hg', hc'⟩ := key_plan (xs (8 * j + 1)) (xs (8 * j + 2)) (bz (xs (8 * j + 3)))  hN hR hp
  refine lv_istore (lv' := [(5, .int k), (0, .ref b), (1, .ref (g 0 0)), (2, .ref h), (3, .ref (h + 44)), (4, .int (nI (8 * j)))]) hx hb dL_law_1348 hl (by decide) rfl (fun ls hl => ?_)
  refine lv_aload_n hx hb dL_law_1350 rfl (lv_at hl 3 rfl) ?_
  refine l_arg C hS (i := 8 * j) (k := 1) (by omega) (lv_at hl 1 rfl) (lv_at hl 5 rfl) (by decide) dL_law_1351 dL_law_1352 dL_law_1354 dL_law_1355 dL_law_1356 ?_
  refine l_arg C hS (i := 8 * j) (k := 2) (by omega) (lv_at hl 1 rfl) (lv_at hl 5 rfl) (by decide) dL_law_1357 dL_law_1358 dL_law_1360 dL_law_1361 dL_law_1362 ?_
  refine l_arg C hS (i := 8 * j) (k := 3) (by omega) (lv_at hl 1 rfl) (lv_at hl 5 rfl) (by decide) dL_law_1363 dL_law_1364 dL_law_1366 dL_law_1367 dL_law_1368 ?_
  refine l_bool C dL_law_1369 dL_law_1372 dL_law_1373 dL_law_1376 ?_
  refine lm_calli C hs hh hw hS (As := [.int (xs (8 * j + 1)), .int (xs (8 * j + 2)), .int (bz (xs (8 * j + 3)))]) (rest := []) (c_plan l mA_44 μ (xs (8 * j + 1)) (xs (8 * j + 2)) (bz (xs (8 * j + 3))) hR.2.1) (cwV 3 hts gL_law_X6_plan rfl rfl rfl (by decide +kernel) ⟨Nat.le_of_ble_eq_true rfl, Nat.le_of_ble_eq_true rfl⟩) rfl hl.1 rfl (Nat.le_of_ble_eq_true rfl) dL_law_1377 ⟨show _ ≤ 601024 by omega, show _ ≤ 7293034 by omega⟩ (fun H locs hw hS => ?_)
  refine l_tail C hs hh hw hS hl e1 e2 ⟨show _ ≤ 601024 by omega, show _ ≤ 7293034 by omega⟩ dL_law_1380 dL_law_1382 dL_law_1383 dL_law_1386 dL_law_1388 dL_law_1393 dL_law_1395 dL_law_1398 dL_law_1399 dL_law_1400 dL_law_1401 dL_law_1403 dL_law_1404 dL_law_1405 dL_law_1410 (by decide) (fun H locs ls hw hS hl => ?_)
  refine W.widen (k := 60 + 20 * (j + 1) + 2 * cn8 u.1.2.1 u.1.2.2) (n := 4000 + 300 * (j + 1) + 300 * cn8 u.1.2.1 u.1.2.2) (by omega) (by omega) ?_
  exact kk _ _ _ _ _ _ _ _ _ hg' (by omega) hw hR' hS hl
set_option maxHeartbeats 4000000 in
set_option maxRecDepth 100000 in
theorem law_gap (hst : l.stackTraces = false) (C : lE p s m c b L xs) (hs : lS D cI cO cZ cJ aE s) (hh : s.heap.size ≤ h) (hj : 8 * j + 8 ≤ L) (ht : t ≤ 1500 * j) (hw : lW D cI cO cZ cJ (lA s.heap.size h) aE h g N σ f μ H) (hR : lR N t σ μ) (hS : va_S (fun q => s.heap.size ≤ q) s.heap H locs) (hl : lv_has ls 9 [(0, .ref b), (1, .ref (g 0 0)), (2, .ref h), (3, .ref (h + 44)), (4, .int (nI (8 * j)))]) (kk : lNx p l e s m below meth c Q D cI cO cZ cJ aE h b j (g 0 0)) : W p l e room_1 s m #[Value.ref b] below meth c H locs (60 + 20 * j + 2 * cn8 N σ) (4000 + 300 * j + 300 * cn8 N σ) Q (F0 m 1413 ls []) := by
  obtain ⟨hx, hb, hml, hown, hts, hX, hbl, hL⟩ := id C
  obtain ⟨ga, cap, hgi, hki, hcp⟩ := id hw.1
  have hN := hki.1
  have hc8 := cn8_le hN σ
  refine lv_aload_n hx hb dL_law_1413 rfl (lv_at hl 1 rfl) ?_
  refine l_arg C hS (i := 8 * j) (k := 1) (by omega) (lv_at hl 0 rfl) (lv_at hl 4 rfl) (by decide) dL_law_1414 dL_law_1415 dL_law_1417 dL_law_1418 dL_law_1419 ?_
  refine l_arg C hS (i := 8 * j) (k := 2) (by omega) (lv_at hl 0 rfl) (lv_at hl 4 rfl) (by decide) dL_law_1420 dL_law_1421 dL_law_1423 dL_law_1424 dL_law_1425 ?_
  refine lv_aload_n hx hb dL_law_1426 rfl (lv_at hl 3 rfl) ?_
  refine vl_calli (vx_runSX (As := [.ref (g 0 0), .int (xs (8 * j + 1)), .int (xs (8 * j + 2)), .ref (h + 44)]) (rest := []) ⟨hx, hb, hml, hown, hts⟩ (x_gap l hst (D := D) (A := lA s.heap.size h) (cI := cI) (cO := cO) (cJ := cJ) (aE := aE) (o := h + 44) (g := g) (N := N) σ f (xs (8 * j + 1)) (xs (8 * j + 2))  (fun z => z.2 ⟨by omega, by omega⟩)) (vx_cwSW 4 hts gL_law_L_gap rfl rfl rfl (by decide +kernel) ⟨Nat.le_of_ble_eq_true rfl, Nat.le_of_ble_eq_true rfl⟩) ⟨wBl, fun U hU hW => ⟨rfl, lW_wW hs hS hw hh hU hW⟩⟩ rfl rfl hl.1 rfl (lv_room (Nat.le_of_ble_eq_true rfl)) dL_law_1427 ⟨show _ ≤ 601024 by omega, show _ ≤ 7293034 by omega⟩) hS (fun q _ z => lA_foot hh z) (fun q z => lA_foot hh z) (fun k u t9 H locs ht9 hvm hp hB hz hk hS => ?_)
  have hw := lW_wB hw ht9 hB hk
  obtain ⟨e1, e2, ⟨t', ht', hR'⟩, hg', hc'⟩ := key_gap (xs (8 * j + 1)) (xs (8 * j + 2))  hN hR hp
  refine lv_istore (lv' := [(5, .int k), (0, .ref b), (1, .ref (g 0 0)), (2, .ref h), (3, .ref (h + 44)), (4, .int (nI (8 * j)))]) hx hb dL_law_1430 hl (by decide) rfl (fun ls hl => ?_)
  refine lv_aload_n hx hb dL_law_1432 rfl (lv_at hl 3 rfl) ?_
  refine l_arg C hS (i := 8 * j) (k := 1) (by omega) (lv_at hl 1 rfl) (lv_at hl 5 rfl) (by decide) dL_law_1433 dL_law_1434 dL_law_1436 dL_law_1437 dL_law_1438 ?_
  refine l_arg C hS (i := 8 * j) (k := 2) (by omega) (lv_at hl 1 rfl) (lv_at hl 5 rfl) (by decide) dL_law_1439 dL_law_1440 dL_law_1442 dL_law_1443 dL_law_1444 ?_
  refine lm_calli C hs hh hw hS (As := [.int (xs (8 * j + 1)), .int (xs (8 * j + 2))]) (rest := []) (c_gap l mA_44 μ (xs (8 * j + 1)) (xs (8 * j + 2)) hR.2.1) (cwV 2 hts gL_law_X6_gap rfl rfl rfl (by decide +kernel) ⟨Nat.le_of_ble_eq_true rfl, Nat.le_of_ble_eq_true rfl⟩) rfl hl.1 rfl (Nat.le_of_ble_eq_true rfl) dL_law_1445 ⟨show _ ≤ 601024 by omega, show _ ≤ 7293034 by omega⟩ (fun H locs hw hS => ?_)
  refine l_tail C hs hh hw hS hl e1 e2 ⟨show _ ≤ 601024 by omega, show _ ≤ 7293034 by omega⟩ dL_law_1448 dL_law_1450 dL_law_1451 dL_law_1454 dL_law_1456 dL_law_1461 dL_law_1463 dL_law_1466 dL_law_1467 dL_law_1468 dL_law_1469 dL_law_1471 dL_law_1472 dL_law_1473 dL_law_1478 (by decide) (fun H locs ls hw hS hl => ?_)
  refine W.widen (k := 60 + 20 * (j + 1) + 2 * cn8 u.1.2.1 u.1.2.2) (n := 4000 + 300 * (j + 1) + 300 * cn8 u.1.2.1 u.1.2.2) (by omega) (by omega) ?_
  exact kk _ _ _ _ _ _ _ _ _ hg' (by omega) hw hR' hS hl
set_option maxHeartbeats 4000000 in
set_option maxRecDepth 100000 in
theorem law_performance (hst : l.stackTraces = false) (C : lE p s m c b L xs) (hs : lS D cI cO cZ cJ aE s) (hh : s.heap.size ≤ h) (hj : 8 * j + 8 ≤ L) (ht : t ≤ 1500 * j) (hw : lW D cI cO cZ cJ (lA s.heap.size h) aE h g N σ f μ H) (hR : lR N t σ μ) (hS : va_S (fun q => s.heap.size ≤ q) s.heap H locs) (hl : lv_has ls 9 [(0, .ref b), (1, .ref (g 0 0)), (2, .ref h), (3, .ref (h + 44)), (4, .int (nI (8 * j)))]) (kk : lNx p l e s m below meth c Q D cI cO cZ cJ aE h b j (g 0 0)) : W p l e room_1 s m #[Value.ref b] below meth c H locs (60 + 20 * j + 2 * cn8 N σ) (4000 + 300 * j + 300 * cn8 N σ) Q (F0 m 1481 ls []) := by
  obtain ⟨hx, hb, hml, hown, hts, hX, hbl, hL⟩ := id C
  obtain ⟨ga, cap, hgi, hki, hcp⟩ := id hw.1
  have hN := hki.1
  have hc8 := cn8_le hN σ
  obtain ⟨b1, b2, b3, b4⟩ := both_perf hR.1 hR.2.2
  refine lv_aload_n hx hb dL_law_1481 rfl (lv_at hl 1 rfl) ?_
  refine lc_calld C hs hh hw hgi hki hcp hS (As := []) (rest := []) (c_X5_performance l σ hki) (cwV 0 hts gL_law_X5_performance rfl rfl rfl (by decide +kernel) ⟨Nat.le_of_ble_eq_true rfl, Nat.le_of_ble_eq_true rfl⟩) rfl hl.1 rfl (Nat.le_of_ble_eq_true rfl) dL_law_1482 ⟨show _ ≤ 601024 by omega, show _ ≤ 7293034 by omega⟩ (fun H locs hw hS => ?_)
  refine lv_dstore (lv' := [(5, .double (q_X5_performance σ)), (0, .ref b), (1, .ref (g 0 0)), (2, .ref h), (3, .ref (h + 44)), (4, .int (nI (8 * j)))]) hx hb dL_law_1485 hl (by decide) rfl (fun ls hl => ?_)
  refine lv_aload_n hx hb dL_law_1487 rfl (lv_at hl 3 rfl) ?_
  refine lm_calld C hs hh hw hS (As := []) (rest := []) (c_performance l mA_44 μ hR.2.1) (cwV 0 hts gL_law_X6_performance rfl rfl rfl (by decide +kernel) ⟨Nat.le_of_ble_eq_true rfl, Nat.le_of_ble_eq_true rfl⟩) rfl hl.1 rfl (Nat.le_of_ble_eq_true rfl) dL_law_1488 ⟨show _ ≤ 601024 by omega, show _ ≤ 7293034 by omega⟩ (fun H locs hw hS => ?_)
  rw [b1]
  generalize q_X5_performance σ = w at hl ⊢
  refine lv_dstore (lv' := [(7, .double w), (5, .double w), (0, .ref b), (1, .ref (g 0 0)), (2, .ref h), (3, .ref (h + 44)), (4, .int (nI (8 * j)))]) hx hb dL_law_1491 hl (by decide) rfl (fun ls hl => ?_)
  have fin : W p l e room_1 s m #[Value.ref b] below meth c H locs (60 + 20 * j + 2 * cn8 N σ) (4000 + 300 * j + 300 * cn8 N σ) Q (F0 m 1519 ls []) := by
    refine lv_goto (tgt := 1535) hx hb dL_law_1519 (by decide) ?_
    refine W.widen (k := 60 + 20 * (j + 1) + 2 * cn8 N σ) (n := 4000 + 300 * (j + 1) + 300 * cn8 N σ) (by omega) (by omega) ?_
    exact kk _ _ _ _ _ _ _ _ _ rfl (by omega) hw ⟨b3, MI_performance hR.2.1, hR.2.2⟩ hS (lv_sub hl [2, 3, 4, 5, 6] rfl)
  refine lv_dload hx hb dL_law_1493 (lv_at hl 1 rfl) ?_
  refine lv_dload hx hb dL_law_1495 (lv_at hl 0 rfl) ?_
  refine lv_dcmp hx hb dL_law_1497 ?_
  refine lv_if_eq (tgt := 1519) hx hb dL_law_1498 (by decide) (fun h9 => fin) (fun h9 => ?_)
  refine lv_dload hx hb dL_law_1501 (lv_at hl 1 rfl) ?_
  refine lv_dload hx hb dL_law_1503 (lv_at hl 1 rfl) ?_
  refine lv_dcmp hx hb dL_law_1505 ?_
  refine lv_if_eq (tgt := 1517) hx hb dL_law_1506 (by decide) (fun h8 => absurd h8 h9) (fun h8 => ?_)
  refine lv_dload hx hb dL_law_1509 (lv_at hl 0 rfl) ?_
  refine lv_dload hx hb dL_law_1511 (lv_at hl 0 rfl) ?_
  refine lv_dcmp hx hb dL_law_1513 ?_
  exact lv_if_ne (tgt := 1519) hx hb dL_law_1514 (by decide) (fun h7 => fin) (fun h7 => absurd h7 h9)
set_option maxHeartbeats 4000000 in
set_option maxRecDepth 100000 in
theorem law_penalty (hst : l.stackTraces = false) (C : lE p s m c b L xs) (hs : lS D cI cO cZ cJ aE s) (hh : s.heap.size ≤ h) (hj : 8 * j + 8 ≤ L) (ht : t ≤ 1500 * j) (hw : lW D cI cO cZ cJ (lA s.heap.size h) aE h g N σ f μ H) (hR : lR N t σ μ) (hS : va_S (fun q => s.heap.size ≤ q) s.heap H locs) (hl : lv_has ls 9 [(0, .ref b), (1, .ref (g 0 0)), (2, .ref h), (3, .ref (h + 44)), (4, .int (nI (8 * j)))]) (kk : lNx p l e s m below meth c Q D cI cO cZ cJ aE h b j (g 0 0)) : W p l e room_1 s m #[Value.ref b] below meth c H locs (60 + 20 * j + 2 * cn8 N σ) (4000 + 300 * j + 300 * cn8 N σ) Q (F0 m 1522 ls []) := by
  obtain ⟨hx, hb, hml, hown, hts, hX, hbl, hL⟩ := id C
  obtain ⟨ga, cap, hgi, hki, hcp⟩ := id hw.1
  have hN := hki.1
  have hc8 := cn8_le hN σ
  obtain ⟨b1, b2, b3, b4⟩ := both_perf hR.1 hR.2.2
  refine lv_aload_n hx hb dL_law_1522 rfl (lv_at hl 1 rfl) ?_
  refine lc_calli C hs hh hw hgi hki hcp hS (As := []) (rest := []) (c_X5_penalty l σ hki) (cwV 0 hts gL_law_X5_penalty rfl rfl rfl (by decide +kernel) ⟨Nat.le_of_ble_eq_true rfl, Nat.le_of_ble_eq_true rfl⟩) rfl hl.1 rfl (Nat.le_of_ble_eq_true rfl) dL_law_1523 ⟨show _ ≤ 601024 by omega, show _ ≤ 7293034 by omega⟩ (fun H locs hw hS => ?_)
  refine lv_aload_n hx hb dL_law_1526 rfl (lv_at hl 2 rfl) ?_
  refine lm_calli C hs hh hw hS (As := []) (rest := [.int (q_X5_penalty σ)]) (c_penalty l mA_44 μ hR.2.1) (cwV 0 hts gL_law_X6_penalty rfl rfl rfl (by decide +kernel) ⟨Nat.le_of_ble_eq_true rfl, Nat.le_of_ble_eq_true rfl⟩) rfl hl.1 rfl (Nat.le_of_ble_eq_true rfl) dL_law_1527 ⟨show _ ≤ 601024 by omega, show _ ≤ 7293034 by omega⟩ (fun H locs hw hS => ?_)
  refine lv_icmp_eq (tgt := 1535) hx hb dL_law_1530 (by decide) (fun h9 => ?_) (fun h9 => absurd b2.symm h9)
  refine W.widen (k := 60 + 20 * (j + 1) + 2 * cn8 N σ) (n := 4000 + 300 * (j + 1) + 300 * cn8 N σ) (by omega) (by omega) ?_
  exact kk _ _ _ _ _ _ _ _ _ rfl (by omega) hw ⟨b4, MI_penalty hR.2.1, hR.2.2⟩ hS hl
end CASES
