/-! THE LAW, from its entry -/
section LNEW
variable {p : Program} {l : Launch} {e : Env} {R : Room} {s : State} {m : MethodId} {args : Array Value} {below : List Frame} {meth : Method} {H : Heap} {locs : List Loc} {cells slots : Nat} {Q : State → Prop}
variable {cc : ByteArray} {pc : Nat} {ls : Array Slot} {rest : List Value} {D : va_G}
theorem l_new {tys : List (ClassId × FieldType)} {c0 : Code} (hexec : p.tables.exec = Jvm.exec) (hb : c0.code = cc) {own C : String} {T : u_T} {N ci index : Nat} {Ts : List Cond} (hts : ∀ w ∈ Ts, w.before args s = true) (hin : ∀ w ∈ u_ws C T N, w ∈ Ts) (ty : Nat → FieldType) (hty : ∀ k, k < N → parseFieldDescriptor (T k).2.2.1 = some (ty k)) (hown : s.vm.findClass own = some m.cls) (hcl : (Cond.classLink own index C).before args s = true) (hinst : (Cond.instantiable C N).before args s = true) (hini : (Cond.initialized C).before args s = true)
    (hK : va_K D vwCl tys s) (hc : vwCl[ci]? = some (C, T, N)) {fs : List Value} (hfs : ∀ j, j < N → defaultValue (ty j) = vp_V fs j) (hcells : cells + 1 ≤ R.cells) (hslots : slots + N ≤ R.slots) (hdg : decode cc pc = .ok (.new index, 3))
    (kk : ∀ (H1 : Heap), va_at D vwCl (H.size, .inr (ci, fs)) H1 → H1.size = H.size + 1 → (∀ q, q < H.size → H1[q]? = H[q]?) →
      W p l e R s m args below meth c0 H1 locs (cells + 1) (slots + N) Q (F0 m (pc + 3) ls (.ref H.size :: rest))) : W p l e R s m args below meth c0 H locs cells slots Q (F0 m pc ls rest) := by
  have hKn := hK.1 ci _ hc
  refine W.newcK hexec hb hown hcl hinst hini rfl hdg hcells hslots hKn.2.1 rfl fun H1 kC hkC e1 z1 o1 => ?_
  exact kk H1 ⟨_, hc, (u_born ty hts hin hKn hkC e1 hty).to hfs⟩ z1 o1
end LNEW
-- ===== YOUR PART BEGINS =====
set_option maxHeartbeats 4000000 in
set_option maxRecDepth 100000 in
theorem whole_start {p : Program} {e : Env} {s : State} {m : MethodId} {below : List Frame} {meth : Method} {c : Code} (l : Launch) (hflags : l.flags = flags0) {b L : Nat} {xs : Nat → Int32} (hL : L ≤ 4096) (C0 : lw_At p s m meth c b L xs) : W p l e room_1 s m #[Value.ref b] below meth c s.heap [] 0 0 (lw_Z below #[Value.ref b] s) (entryFrame m ([Value.ref b] : List Value).toArray 9) := by
  obtain ⟨hx, hb, hr, hml, hown, hts, hX, hbl, hlocks, hgv⟩ := id C0
  have hst : l.stackTraces = false := by
    unfold Launch.stackTraces
    rw [hflags]
    decide +kernel
  obtain ⟨D, cI, cO, cZ, cJ, aE, hs⟩ := law_S hts hgv
  have htl : ∀ w ∈ wsL_law, w.before #[Value.ref b] s = true := fun w h => hts w (wsL_law_in w h)
  have C : lE p s m c b L xs := ⟨hx, hb, hml, hown, htl, hX, hbl, hL⟩
  have hS : va_S (fun q => s.heap.size ≤ q) s.heap s.heap [] := va_S.rf
  have hl := lv_entry ([.ref b]) (n := 9) (Nat.le_of_ble_eq_true rfl)
  rw [lg_entry_eq]
  generalize (lg_sl ([.ref b]) ++ List.replicate (9 - (lg_sl ([.ref b])).length) Slot.unset).toArray = ls at hl ⊢
  have hl : lv_has ls 9 [(0, .ref b)] := hl
  refine l_new (D := D) (ci := 8) (fs := [.null, .null, .null, .null, .null, .int 0]) (C := RX5) (T := TX5) (N := 6) hx hb hts inX5 tyX5 tyX5_ok hown (hts (.classLink RL 8 RX5) (by decide +kernel)) (hts (.instantiable RX5 6) (by decide +kernel)) (hts (.initialized RX5) (by decide +kernel)) hs.1 rfl (fun j hj => by rcases (show j = 0 ∨ j = 1 ∨ j = 2 ∨ j = 3 ∨ j = 4 ∨ j = 5 by omega) with rfl | rfl | rfl | rfl | rfl | rfl <;> rfl) (Nat.le_of_ble_eq_true rfl) (Nat.le_of_ble_eq_true rfl) dL_law_0 (fun H hO z1 o1 => ?_)
  have hS : va_S (fun q => s.heap.size ≤ q) s.heap H [] := ⟨by omega, fun q hq _ => o1 q hq, fun _ h => absurd h List.not_mem_nil⟩
  have foot : ∀ q : Nat, (q = s.heap.size ∨ H.size ≤ q) → s.heap.size ≤ q := fun q h9 => by
    rcases h9 with h9 | h9
    · exact Nat.le_of_eq h9.symm
    · omega
  refine lv_dup hx hb dL_law_3 rfl ?_
  refine va_callv (va_runI (As := []) (rest := [.ref s.heap.size]) ⟨hx, hb, hml, hown, htl⟩ (c_X5_init l (D := D) (cI := cI) (cO := cO) H.size aE s.heap.size) (cwI 0 htl gL_law_X5_init rfl rfl rfl (hts (.initialized RX5) (by decide +kernel)) (hts (.methodLink RL 71 yX5_init) (by decide +kernel)) (hts (.instanceMethod yX5_init) (by decide +kernel)) rfl (by decide +kernel) ⟨Nat.le_of_ble_eq_true rfl, Nat.le_of_ble_eq_true rfl⟩) ⟨fun a U g mk q => ⟨q.1, q.2.1, q.2.2.1, va_K.moved (u := U) (U := U.calling g mk a) (Vm.Alike.refl U.vm) q.2.2.2.1, q.2.2.2.2.moved (u := U) (U := U.calling g mk a) (Vm.Alike.refl U.vm)⟩, fun U hU hW => ⟨rfl, by rw [hU], fun k q hq => (by
      match k, hq with
      | 0, hq => cases hq; rw [hU]; exact hO
      | k + 1, hq => simp at hq), va_K.moved hW.alike hs.1, (cY_at hs.2.2.2.2.1 hS hU hW).1.narrow (fun x hx9 => foot x hx9)⟩⟩ rfl rfl hl.1 rfl (lv_room (Nat.le_of_ble_eq_true rfl)) dL_law_4 ⟨Nat.le_of_ble_eq_true rfl, Nat.le_of_ble_eq_true rfl⟩) hS (fun q _ h9 => foot q h9) (fun q h9 => foot q h9) (fun u t H1 locs ht hvm hw hB hz1 hk1 hS => ?_)
  obtain ⟨q1, q2, q3, q4, q5⟩ := u
  obtain ⟨hP1, hD1, -⟩ := hB
  rw [ht] at hP1
  refine lv_astore_n (lv' := [(1, .ref s.heap.size), (0, .ref b)]) hx hb dL_law_7 rfl hl (by decide) rfl (fun ls hl => ?_)
  refine l_new (D := D) (ci := 9) (fs := [.int 0, .int 0, .int 0, .null, .null, .null, .null, .null, .null, .null, .null, .null, .int 0, .null, .null, .null, .null, .null, .null, .null, .null, .int 0, .null, .null, .null, .null, .null, .null, .null, .null, .null, .null, .null, .null, .int 0, .null, .null, .null, .null, .null, .null, .null, .null, .null, .null, .null, .null, .null, .null]) (C := RX6) (T := TX6) (N := 49) hx hb hts inX6 tyX6 tyX6_ok hown (hts (.classLink RL 72 RX6) (by decide +kernel)) (hts (.instantiable RX6 49) (by decide +kernel)) (hts (.initialized RX6) (by decide +kernel)) hs.1 rfl (by decide +kernel) (Nat.le_of_ble_eq_true rfl) (Nat.le_of_ble_eq_true rfl) dL_law_8 (fun H2 hO2 z2 o2 => ?_)
  have hS2 : va_S (fun q => s.heap.size ≤ q) s.heap H2 locs := ⟨by have := hS.1; omega, fun q hq h9 => (o2 q (by have := hS.1; omega)).trans (hS.2.1 q hq h9), hS.2.2⟩
  have hn : s.heap.size < H1.size := by omega
  refine lv_dup hx hb dL_law_11 rfl ?_
  refine va_callv (va_runI (As := []) (rest := [.ref H1.size]) ⟨hx, hb, hml, hown, htl⟩ (c_X6_init l (D := D) (cI := cI) (cZ := cZ) H1.size) (cwI 0 htl gL_law_X6_init rfl rfl rfl (hts (.initialized RX6) (by decide +kernel)) (hts (.methodLink RL 74 yX6_init) (by decide +kernel)) (hts (.instanceMethod yX6_init) (by decide +kernel)) rfl (by decide +kernel) ⟨Nat.le_of_ble_eq_true rfl, Nat.le_of_ble_eq_true rfl⟩) ⟨fun a U g mk q => ⟨q.1, q.2.1, q.2.2.1, va_K.moved (u := U) (U := U.calling g mk a) (Vm.Alike.refl U.vm) q.2.2.2⟩, fun U hU hW => ⟨rfl, by rw [hU]; exact z2, by rw [hU]; exact hO2, va_K.moved hW.alike hs.2.1⟩⟩ rfl rfl hl.1 rfl (lv_room (Nat.le_of_ble_eq_true rfl)) dL_law_12 ⟨Nat.le_of_ble_eq_true rfl, Nat.le_of_ble_eq_true rfl⟩) hS2 (fun q _ h9 => by
      show s.heap.size ≤ q
      have h9 : H1.size ≤ q := h9
      omega) (fun q h9 => by
      show s.heap.size ≤ q
      have h9 : H1.size ≤ q := h9
      omega) (fun u3 t3 H3 locs3 ht3 hvm3 hw3 hB3 hz3 hk3 hS3 => ?_)
  obtain ⟨hB3, hsz⟩ := hB3
  have hM3 := hB3.1
  rw [ht3] at hM3 hsz
  refine lv_astore_n (lv' := [(2, .ref H1.size), (1, .ref s.heap.size), (0, .ref b)]) hx hb dL_law_15 rfl hl (by decide) rfl (fun ls hl => ?_)
  refine lv_iconst (v := 1) hx hb dL_law_16 (by decide) ?_
  refine va_newaK (atype := .long) hx hb (hts (.arrayClass .long) (by decide +kernel)) rfl dL_law_17 rfl (by decide) (N := 1) (by decide) (by decide) (Nat.le_of_ble_eq_true rfl) (Nat.le_of_ble_eq_true rfl) hsz fun H4 cA e4 z4 o4 hAr hNm => ?_
  have hcA : cA = cJ := by
    have h1 : s.vm.findClass ("[" ++ (FieldType.long).toString) = some cJ := (hs.2.2.1.2 0 _ rfl).2
    exact Option.some.inj (hNm.symm.trans h1)
  subst hcA
  refine W.eq (g2 := F0 m 19 ls [.ref (H1.size + 44)]) rfl ?_
  refine lv_astore_n (lv' := [(3, .ref (H1.size + 44)), (2, .ref H1.size), (1, .ref s.heap.size), (0, .ref b)]) hx hb dL_law_19 rfl hl (by decide) rfl (fun ls hl => ?_)
  refine lv_iconst (v := 0) hx hb dL_law_20 (by decide) ?_
  refine lv_istore (lv' := [(4, .int 0), (3, .ref (H1.size + 44)), (2, .ref H1.size), (1, .ref s.heap.size), (0, .ref b)]) hx hb dL_law_21 hl (by decide) rfl (fun ls hl => ?_)
  have hS4 : va_S (fun q => s.heap.size ≤ q) s.heap H4 locs3 := ⟨by have := hS3.1; omega, fun q hq h9 => (o4 q (by omega)).trans (hS3.2.1 q hq h9), hS3.2.2⟩
  have kp : ∀ q, q < H1.size → H4[q]? = H1[q]? := fun q hq => ((o4 q (by omega)).trans (hk3 q (by omega) (fun z => by have z : H1.size ≤ q := z; omega))).trans (o2 q hq)
  have hG1 : cG D cI cO (lA s.heap.size H1.size) aE (g0 s.heap.size q1 q2 q3 q4 q5) N0 m0 H1 := cG_0 hP1 hD1 (fun q hq h9 => ⟨by rcases h9 with h9 | h9 <;> omega, fun z => by omega⟩)
  have hw4 : lW D cI cO cZ cA (lA s.heap.size H1.size) aE H1.size (g0 s.heap.size q1 q2 q3 q4 q5) N0 m0 (fun _ => 0) m0 H4 := ⟨cG_kept hG1 (fun q hq _ => kp q hq), mP_kept hM3 (fun q hq h1 h2 => o4 q (by omega)), e4⟩
  refine W.widen (k := 60 + 20 * 0 + 2 * cn8 N0 m0) (n := 4000 + 300 * 0 + 300 * cn8 N0 m0) (by omega) (by omega) ?_
  exact law_loop hst hr hlocks C hs (Nat.le_of_lt hn) (L + 1) 0 0 _ N0 m0 m0 _ H4 locs3 ls s.heap.size (by omega) (by omega) (Nat.zero_le _) rfl hw4 lR_0 hS4 (lv_sub hl [4, 3, 2, 1, 0] rfl)
-- ===== YOUR PART ENDS =====
