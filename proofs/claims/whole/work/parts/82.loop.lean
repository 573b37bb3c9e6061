/-! THE LAW: its loop -/
set_option maxHeartbeats 4000000 in
set_option maxRecDepth 100000 in
theorem law_loop {p : Program} {l : Launch} {e : Env} {s : State} {m : MethodId} {below : List Frame} {meth : Method} {c : Code} {b L : Nat} {xs : Nat → Int32} (hst : l.stackTraces = false) (hr : meth.sig.returnType = ret) (hlocks : meth.locks = false) (C : lE p s m c b L xs) {D : va_G} {cI cO cZ cJ : ClassId} {aE h : Nat} (hs : lS D cI cO cZ cJ aE s) (hh : s.heap.size ≤ h) :
    ∀ (n j t : Nat) (g : Gh) (N : Nat → Nat) (σ μ : St) (f : Nat → Int64) (H : Heap) (locs : List Loc) (ls : Array Slot) (q0 : Nat), 8 * j ≤ L → L + 1 ≤ 8 * (j + n) → t ≤ 1500 * j → g 0 0 = q0 → lW D cI cO cZ cJ (lA s.heap.size h) aE h g N σ f μ H → lR N t σ μ → va_S (fun q => s.heap.size ≤ q) s.heap H locs → lv_has ls 9 [(0, .ref b), (1, .ref q0), (2, .ref h), (3, .ref (h + 44)), (4, .int (nI (8 * j)))] → W p l e room_1 s m #[Value.ref b] below meth c H locs (60 + 20 * j + 2 * cn8 N σ) (4000 + 300 * j + 300 * cn8 N σ) (lw_Z below #[Value.ref b] s) (F0 m 23 ls []) := by
  obtain ⟨hx, hb, hml, hown, hts, hX, hbl, hL⟩ := id C
  intro n
  induction n with
  | zero => intro j t g N σ μ f H locs ls q0 h1 h2; exact absurd h2 (by omega)
  | succ n ih =>
    intro j t g N σ μ f H locs ls q0 h1 h2 ht hg hw hR hS hl
    subst hg
    obtain ⟨ga, cap, hgi, hki, hcp⟩ := id hw.1
    have hc8 := cn8_le hki.1 σ
    refine lv_iload hx hb dL_law_23 (lv_at hl 4 rfl) ?_
    refine lv_aload_n hx hb dL_law_25 rfl (lv_at hl 0 rfl) ?_
    refine va_slen hx hb hX hbl (Nat.not_le.mpr hbl) hS dL_law_26 ?_
    refine lv_bipush (v := 8) hx hb dL_law_27 (by decide) ?_
    refine lv_isub hx hb dL_law_29 ?_
    have eL : (Int32.ofNat L - 8).toInt = (L : Int) - 8 := by
      have e1 : (Int32.ofNat L).toInt = (L : Int) := nI_toInt (n := L) (by omega)
      have h8 : (8 : Int32).toInt = 8 := by decide
      rw [fb_subI (by rw [e1, h8]; omega) (by rw [e1, h8]; omega), e1, h8]
    have e8 : (nI (8 * j)).toInt = ((8 * j : Nat) : Int) := nI_toInt (by omega)
    refine lv_icmp_gt (tgt := 1541) hx hb dL_law_30 (by decide) (fun c9 => ?_) (fun c9 => ?_)
    · refine lv_iconst (v := 1) hx hb dL_law_1541 (by decide) ?_
      refine va_forget (fun q hq => hS.2.2 q hq) ?_
      refine W.widen (k := 601024) (n := 7293034) (by omega) (by omega) ?_
      exact W.base (lw_ret (Drawn.sameBut.refl s.drawn lw_cs) hx hb hr hlocks dL_law_1542)
    · have hj : 8 * j + 8 ≤ L := by
        rw [fa_lt, eL, e8] at c9
        omega
      have kk : lNx p l e s m below meth c (lw_Z below #[Value.ref b] s) D cI cO cZ cJ aE h b j (g 0 0) := fun g' N' σ' μ' f' t' H' locs' ls' hg ht hw hR hS hl => by
        refine lv_iinc (v := nI (8 * (j + 1))) (lv' := [(4, .int (nI (8 * (j + 1)))), (0, .ref b), (1, .ref (g 0 0)), (2, .ref h), (3, .ref (h + 44))]) hx hb dL_law_1535 hl (k := 4) rfl (nI_add (8 * j) 8) (by decide) rfl (fun ls hl => ?_)
        refine lv_goto (tgt := 23) hx hb dL_law_1538 (by decide) ?_
        exact ih (j + 1) t' g' N' σ' μ' f' H' locs' ls (g 0 0) (by omega) (by omega) ht hg hw hR hS (lv_sub hl [1, 2, 3, 4, 0] rfl)
      refine lv_aload_n hx hb dL_law_33 rfl (lv_at hl 0 rfl) ?_
      refine lv_iload hx hb dL_law_34 (lv_at hl 4 rfl) ?_
      refine va_sld hx hb hX hbl (Nat.not_le.mpr hbl) hS (vp_in_nI (n := 8 * j) (by omega) (by omega)) dL_law_36 ?_
      refine lv_bipush (v := 31) hx hb dL_law_37 (by decide) ?_
      refine lv_iand hx hb dL_law_39 ?_
      generalize (xs (nI (8 * j)).toNatClampNeg &&& 31) = z
      by_cases ho : z.toInt < 0 ∨ 17 < z.toInt
      · refine lv_tableOut (tgt := 1535) hx hb dL_law_40 ho (by decide) ?_
        refine W.widen (k := 60 + 20 * (j + 1) + 2 * cn8 N σ) (n := 4000 + 300 * (j + 1) + 300 * cn8 N σ) (by omega) (by omega) ?_
        exact kk g N σ μ f t H locs ls rfl (by omega) hw hR hS hl
      have hz : z.toInt = 0 ∨ z.toInt = 1 ∨ z.toInt = 2 ∨ z.toInt = 3 ∨ z.toInt = 4 ∨ z.toInt = 5 ∨ z.toInt = 6 ∨ z.toInt = 7 ∨ z.toInt = 8 ∨ z.toInt = 9 ∨ z.toInt = 10 ∨ z.toInt = 11 ∨ z.toInt = 12 ∨ z.toInt = 13 ∨ z.toInt = 14 ∨ z.toInt = 15 ∨ z.toInt = 16 ∨ z.toInt = 17 := by omega
      rcases hz with hz | hz | hz | hz | hz | hz | hz | hz | hz | hz | hz | hz | hz | hz | hz | hz | hz | hz
      · exact lv_tableIn (off := 88) (tgt := 128) hx hb dL_law_40 (by omega) (by omega) (by rw [hz]; decide) (by decide) (law_pier hst C hs hh hj ht hw hR hS hl kk)
      · exact lv_tableIn (off := 196) (tgt := 236) hx hb dL_law_40 (by omega) (by omega) (by rw [hz]; decide) (by decide) (law_boat hst C hs hh hj ht hw hR hS hl kk)
      · exact lv_tableIn (off := 328) (tgt := 368) hx hb dL_law_40 (by omega) (by omega) (by rw [hz]; decide) (by decide) (law_swell hst C hs hh hj ht hw hR hS hl kk)
      · exact lv_tableIn (off := 396) (tgt := 436) hx hb dL_law_40 (by omega) (by omega) (by rw [hz]; decide) (by decide) (law_breakDown hst C hs hh hj ht hw hR hS hl kk)
      · exact lv_tableIn (off := 459) (tgt := 499) hx hb dL_law_40 (by omega) (by omega) (by rw [hz]; decide) (by decide) (law_relieve hst C hs hh hj ht hw hR hS hl kk)
      · exact lv_tableIn (off := 527) (tgt := 567) hx hb dL_law_40 (by omega) (by omega) (by rw [hz]; decide) (by decide) (law_sailing hst C hs hh hj ht hw hR hS hl kk)
      · exact lv_tableIn (off := 661) (tgt := 701) hx hb dL_law_40 (by omega) (by omega) (by rw [hz]; decide) (by decide) (law_book hst C hs hh hj ht hw hR hS hl kk)
      · exact lv_tableIn (off := 825) (tgt := 865) hx hb dL_law_40 (by omega) (by omega) (by rw [hz]; decide) (by decide) (law_rate hst C hs hh hj ht hw hR hS hl kk)
      · exact lv_tableIn (off := 893) (tgt := 933) hx hb dL_law_40 (by omega) (by omega) (by rw [hz]; decide) (by decide) (law_pass hst C hs hh hj ht hw hR hS hl kk)
      · exact lv_tableIn (off := 949) (tgt := 989) hx hb dL_law_40 (by omega) (by omega) (by rw [hz]; decide) (by decide) (law_tide hst C hs hh hj ht hw hR hS hl kk)
      · exact lv_tableIn (off := 1017) (tgt := 1057) hx hb dL_law_40 (by omega) (by omega) (by rw [hz]; decide) (by decide) (law_boatOf hst C hs hh hj ht hw hR hS hl kk)
      · exact lv_tableIn (off := 1085) (tgt := 1125) hx hb dL_law_40 (by omega) (by omega) (by rw [hz]; decide) (by decide) (law_sailingOf hst C hs hh hj ht hw hR hS hl kk)
      · exact lv_tableIn (off := 1153) (tgt := 1193) hx hb dL_law_40 (by omega) (by omega) (by rw [hz]; decide) (by decide) (law_against hst C hs hh hj ht hw hR hS hl kk)
      · exact lv_tableIn (off := 1209) (tgt := 1249) hx hb dL_law_40 (by omega) (by omega) (by rw [hz]; decide) (by decide) (law_bookingOf hst C hs hh hj ht hw hR hS hl kk)
      · exact lv_tableIn (off := 1277) (tgt := 1317) hx hb dL_law_40 (by omega) (by omega) (by rw [hz]; decide) (by decide) (law_plan hst C hs hh hj ht hw hR hS hl kk)
      · exact lv_tableIn (off := 1373) (tgt := 1413) hx hb dL_law_40 (by omega) (by omega) (by rw [hz]; decide) (by decide) (law_gap hst C hs hh hj ht hw hR hS hl kk)
      · exact lv_tableIn (off := 1441) (tgt := 1481) hx hb dL_law_40 (by omega) (by omega) (by rw [hz]; decide) (by decide) (law_performance hst C hs hh hj ht hw hR hS hl kk)
      · exact lv_tableIn (off := 1482) (tgt := 1522) hx hb dL_law_40 (by omega) (by omega) (by rw [hz]; decide) (by decide) (law_penalty hst C hs hh hj ht hw hR hS hl kk)
