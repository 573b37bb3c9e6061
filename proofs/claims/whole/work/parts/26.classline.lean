def lf_X5_firstInLine_4 (σ : St) (sailing : Int32) : Nat → Nat → Int32 → Int32
  | 0, _, x2 => x2
  | n + 1, i, x2 => if (σ 54 3) ≤ (nI i) then x2 else (lf_X5_firstInLine_4 σ sailing n (i + 1) (if (q_X1_waitsFor σ (nI i) sailing) = 0 then x2 else (if x2 = ((-1) : Int32) then (nI i) else (if (q_X1_isAheadOf σ (nI i) x2) = 0 then x2 else (nI i)))))
def q_X5_firstInLine (σ : St) (sailing : Int32) : Int32 := (lf_X5_firstInLine_4 σ sailing 101 0 ((-1) : Int32))
set_option maxHeartbeats 1000000 in
set_option maxRecDepth 100000 in
theorem w_X5_firstInLine {p : Program} {l : Launch} {e : Env} {R : Room} {s : State} {m : MethodId} {args : Array Value} {below : List Frame} {meth : Method} {c : Code} {H : Heap} {locs : List Loc} {cells slots : Nat} {Q : State → Prop} {D : va_G} {A : Nat → Prop} {cI cO : ClassId} {g : Gh} {cap N : Nat → Nat} {ls : Array Slot} (σ : St) (sailing : Int32) (hI : KI cap N σ) (h_sailing : vp_in sailing (N 6)) (E : kE p c cX5_firstInLine s m args wsX5_firstInLine RX5 D cI cO) (hml : c.maxLocals = 5) (hR : 3 ≤ R.frames ∧ 64 ≤ R.locals) (hf : cells ≤ R.cells ∧ slots ≤ R.slots) (hP : cP D cI cO A g cap N σ H) (hS : va_S A s.heap H locs) (hl : lv_has ls 5 [(0, .ref (g 0 0)), (1, .ref (g 6 sailing.toNatClampNeg))]) (kr : ∀ (pc : Nat) (rv : Int32) (H1 : Heap) (locs1 : List Loc) (ls1 : Array Slot), decode cX5_firstInLine pc = .ok (.areturn, 1) → rv = q_X5_firstInLine σ sailing → cP D cI cO A g cap N σ H1 → va_S A s.heap H1 locs1 → W p l e R s m args below meth c H1 locs1 cells slots Q (F0 m pc ls1 [va_rf (on g 8 rv)])) : W p l e R s m args below meth c H locs cells slots Q (F0 m 0 ls []) := by
  have hx := E.1.1
  have hb := E.1.2
  have hts := E.2.1
  obtain ⟨n0, n4, n5, n6, n8, n7, n1, n2, n3⟩ := id hI.1
  have i_X5 : ∀ w ∈ wsX50, w ∈ wsX5_firstInLine := by decide +kernel
  have hq : q_X5_firstInLine σ sailing = (lf_X5_firstInLine_4 σ sailing 101 0 ((-1) : Int32)) := rfl
  refine lv_null hx hb dX5_firstInLine_0 ?_
  refine lv_astore_nN (lv' := [(2, .null), (0, .ref (g 0 0)), (1, .ref (g 6 sailing.toNatClampNeg))]) hx hb dX5_firstInLine_1 rfl hl (by decide) rfl (fun ls hl => ?_)
  refine lv_iconst (v := 0) hx hb dX5_firstInLine_2 (by decide) ?_
  refine lv_istore_n (lv' := [(3, .int (0 : Int32)), (2, .null), (0, .ref (g 0 0)), (1, .ref (g 6 sailing.toNatClampNeg))]) hx hb dX5_firstInLine_3 rfl hl (by decide) rfl (fun ls hl => ?_)
  obtain ⟨C, hC, eC⟩ : ∃ C : Nat, C = N 8 ∧ σ 54 3 = nI C := ⟨N 8, rfl, hI.2.1.2.2.2⟩
  have L_5 : ∀ (n : Nat) (i : Nat) (x2 : Int32) (H : Heap) (locs : List Loc) (ls : Array Slot), i + n = 101 → i ≤ C → lf_X5_firstInLine_4 σ sailing n i x2 = lf_X5_firstInLine_4 σ sailing 101 0 ((-1) : Int32) → nx x2 (N 8) → cP D cI cO A g cap N σ H → va_S A s.heap H locs → lv_has ls 5 [(3, .int (nI i)), (2, va_rf (on g 8 x2)), (0, .ref (g 0 0)), (1, .ref (g 6 sailing.toNatClampNeg))] → W p l e R s m args below meth c H locs cells slots Q (F0 m 4 ls []) := by
    intro n
    induction n with
    | zero => intro i x2 H locs ls hin hiC; omega
    | succ n ih =>
      intro i x2 H locs ls hin hiC hfin hv hP hS hl
      have hfin : (if (σ 54 3) ≤ (nI i) then x2 else (lf_X5_firstInLine_4 σ sailing n (i + 1) (if (q_X1_waitsFor σ (nI i) sailing) = 0 then x2 else (if x2 = ((-1) : Int32) then (nI i) else (if (q_X1_isAheadOf σ (nI i) x2) = 0 then x2 else (nI i)))))) = lf_X5_firstInLine_4 σ sailing 101 0 ((-1) : Int32) := hfin
      refine lv_iload_n hx hb dX5_firstInLine_4 rfl (lv_at hl 0 rfl) ?_
      refine lv_aload_n hx hb dX5_firstInLine_5 rfl (lv_at hl 2 rfl) ?_
      refine cg_X5_bookings E i_X5 hP (by omega) (by decide +kernel) dX5_firstInLine_6 ?_
      refine kcV_i E hml hP hS (kr_1 E.2.2.2 hP ⟨by decide, by omega, fun z => absurd z (by decide)⟩) (c_AL_size l σ 3 ⟨by decide, by omega, fun z => absurd z (by decide)⟩) (cwV 0 hts gX5_firstInLine_Jx4a65c_size_8abf5 rfl rfl rfl (by decide +kernel) ⟨Nat.le_trans (Nat.le_of_ble_eq_true rfl) hR.1, Nat.le_trans (Nat.le_of_ble_eq_true rfl) hR.2⟩) rfl hl.1 rfl (Nat.le_of_ble_eq_true rfl) dX5_firstInLine_9 hf (fun H locs hP hS => ?_)
      refine lv_icmp_ge (tgt := 59) hx hb dX5_firstInLine_12 (by decide) (fun c_1 => ?_) (fun c_1 => ?_)
      · have hfin := (if_pos c_1).symm.trans hfin
        subst hfin
        have hl := lv_sub hl [1, 2, 3] rfl
        refine lv_aload_nQ hx hb dX5_firstInLine_59 rfl (lv_at hl 0 rfl) ?_
        exact kr _ (lf_X5_firstInLine_4 σ sailing 101 0 ((-1) : Int32)) H locs ls dX5_firstInLine_60 hq.symm hP hS
      have hfin := (if_neg c_1).symm.trans hfin
      have hlt : i < C := m_lt eC c_1 (by omega) (by omega)
      refine lv_aload_n hx hb dX5_firstInLine_15 rfl (lv_at hl 2 rfl) ?_
      refine cg_X5_bookings E i_X5 hP (by omega) (by decide +kernel) dX5_firstInLine_16 ?_
      refine lv_iload_n hx hb dX5_firstInLine_19 rfl (lv_at hl 0 rfl) ?_
      refine kcV_r (v := g 8 (nI i).toNatClampNeg) E hml hP hS (kr_1 E.2.2.2 hP ⟨by decide, by omega, fun z => absurd z (by decide)⟩) (c_AL_get l σ 3 (nI i) ⟨by decide, by omega, fun z => absurd z (by decide)⟩ n2 (hI.2.2.2.2.2 _ (by omega)) (by rw [hI.2.1.2.2.2, nI_clamp (by omega)]; exact (vp_in_nI (n := i) (by omega) (by omega)))) (cwV 1 hts gX5_firstInLine_Jx4a65c_get_915e3 rfl rfl rfl (by decide +kernel) ⟨Nat.le_trans (Nat.le_of_ble_eq_true rfl) hR.1, Nat.le_trans (Nat.le_of_ble_eq_true rfl) hR.2⟩) rfl hl.1 rfl (Nat.le_of_ble_eq_true rfl) dX5_firstInLine_20 hf (fun H locs hP hS => ?_)
      refine kcast E (E.2.2.2.1 4 _ rfl).2 (kr_8 E.2.2.2 hP ⟨by decide, vp_lt (vp_in_nI (n := i) (by omega) (by omega)), fun z => absurd z (by decide)⟩) (by decide +kernel) dX5_firstInLine_23 ?_
      refine lv_astore (lv' := [(4, .ref (g 8 (nI i).toNatClampNeg)), (3, .int (nI i)), (2, va_rf (on g 8 x2)), (0, .ref (g 0 0)), (1, .ref (g 6 sailing.toNatClampNeg))]) hx hb dX5_firstInLine_26 hl (by decide) rfl (fun ls hl => ?_)
      refine lv_aload hx hb dX5_firstInLine_28 (lv_at hl 0 rfl) ?_
      refine lv_aload_n hx hb dX5_firstInLine_30 rfl (lv_at hl 4 rfl) ?_
      refine kcV_i E hml hP hS (kr_8 E.2.2.2 hP ⟨by decide, vp_lt (vp_in_nI (n := i) (by omega) (by omega)), fun z => absurd z (by decide)⟩) (c_X1_waitsFor l σ (nI i) sailing hI (vp_in_nI (n := i) (by omega) (by omega)) h_sailing) (cwV 1 hts gX5_firstInLine_X1_waitsFor rfl rfl rfl (by decide +kernel) ⟨Nat.le_trans (Nat.le_of_ble_eq_true rfl) hR.1, Nat.le_trans (Nat.le_of_ble_eq_true rfl) hR.2⟩) rfl hl.1 rfl (Nat.le_of_ble_eq_true rfl) dX5_firstInLine_31 hf (fun H locs hP hS => ?_)
      have J_2 : ∀ (y2_l2 : Int32) (H : Heap) (locs : List Loc) (ls : Array Slot), y2_l2 = (if (q_X1_waitsFor σ (nI i) sailing) = 0 then x2 else (if x2 = ((-1) : Int32) then (nI i) else (if (q_X1_isAheadOf σ (nI i) x2) = 0 then x2 else (nI i)))) → cP D cI cO A g cap N σ H → va_S A s.heap H locs → lv_has ls 5 [(4, .ref (g 8 (nI i).toNatClampNeg)), (3, .int (nI i)), (2, va_rf (on g 8 y2_l2)), (0, .ref (g 0 0)), (1, .ref (g 6 sailing.toNatClampNeg))] → W p l e R s m args below meth c H locs cells slots Q (F0 m 53 ls []) := by
        intro y2_l2 H locs ls e_y2_l2 hP hS hl
        subst e_y2_l2
        refine lv_iinc (v := nI (i + 1)) (lv' := [(3, .int (nI (i + 1))), (4, .ref (g 8 (nI i).toNatClampNeg)), (2, va_rf (on g 8 (if (q_X1_waitsFor σ (nI i) sailing) = 0 then x2 else (if x2 = ((-1) : Int32) then (nI i) else (if (q_X1_isAheadOf σ (nI i) x2) = 0 then x2 else (nI i)))))), (0, .ref (g 0 0)), (1, .ref (g 6 sailing.toNatClampNeg))]) hx hb dX5_firstInLine_53 hl (k := 1) rfl (by first | rfl | exact nI_1 _) (by decide) (by simp [va_cat]) (fun ls hl => ?_)
        refine lv_goto (tgt := 4) hx hb dX5_firstInLine_56 (by decide) ?_
        exact ih (i + 1) (if (q_X1_waitsFor σ (nI i) sailing) = 0 then x2 else (if x2 = ((-1) : Int32) then (nI i) else (if (q_X1_isAheadOf σ (nI i) x2) = 0 then x2 else (nI i)))) H locs ls (by omega) (by omega) hfin (by repeat (first | with_reducible exact hv | with_reducible exact nx_in (vp_in_nI (by omega) (by omega)) | with_reducible apply nx_if)) hP hS (lv_sub hl [0, 2, 3, 4] rfl)
      refine lv_if_eq (tgt := 53) hx hb dX5_firstInLine_34 (by decide) (fun c_2 => ?_) (fun c_2 => ?_)
      · exact J_2 x2 H locs ls (if_pos c_2).symm hP hS (lv_sub hl [0, 1, 2, 3, 4] rfl)
      refine lv_aload_nQ hx hb dX5_firstInLine_37 rfl (lv_at hl 2 rfl) ?_
      refine lv_ifnullQ (tgt := 50) hx hb dX5_firstInLine_38 (by decide) (fun c_3 => ?_) (fun c_3 => ?_)
      · refine lv_aload hx hb dX5_firstInLine_50 (lv_at hl 0 rfl) ?_
        refine lv_astore_n (lv' := [(2, .ref (g 8 (nI i).toNatClampNeg)), (4, .ref (g 8 (nI i).toNatClampNeg)), (3, .int (nI i)), (0, .ref (g 0 0)), (1, .ref (g 6 sailing.toNatClampNeg))]) hx hb dX5_firstInLine_52 rfl hl (by decide) rfl (fun ls hl => ?_)
        exact J_2 (nI i) H locs ls ((if_pos c_3).symm.trans (if_neg c_2).symm) hP hS (by rw [on_o (g := g) (k := 8) (vp_nm (vp_in_nI (n := i) (by omega) (by omega)))]; exact lv_sub hl [1, 2, 0, 3, 4] rfl)
      refine lv_aload hx hb dX5_firstInLine_41 (lv_at hl 0 rfl) ?_
      refine lv_aload_nQ hx hb dX5_firstInLine_43 rfl (lv_at hl 2 rfl) ?_
      rw [on_o (g := g) (k := 8) c_3]
      refine kcV_i E hml hP hS (kr_8 E.2.2.2 hP ⟨by decide, vp_lt (vp_in_nI (n := i) (by omega) (by omega)), fun z => absurd z (by decide)⟩) (c_X1_isAheadOf l σ (nI i) x2 hI (vp_in_nI (n := i) (by omega) (by omega)) (Or.resolve_left hv (by assumption))) (cwV 1 hts gX5_firstInLine_X1_isAheadOf rfl rfl rfl (by decide +kernel) ⟨Nat.le_trans (Nat.le_of_ble_eq_true rfl) hR.1, Nat.le_trans (Nat.le_of_ble_eq_true rfl) hR.2⟩) rfl hl.1 rfl (Nat.le_of_ble_eq_true rfl) dX5_firstInLine_44 hf (fun H locs hP hS => ?_)
      refine lv_if_eq (tgt := 53) hx hb dX5_firstInLine_47 (by decide) (fun c_4 => ?_) (fun c_4 => ?_)
      · exact J_2 x2 H locs ls ((if_pos c_4).symm.trans ((if_neg c_3).symm.trans (if_neg c_2).symm)) hP hS (lv_sub hl [0, 1, 2, 3, 4] rfl)
      refine lv_aload hx hb dX5_firstInLine_50 (lv_at hl 0 rfl) ?_
      refine lv_astore_n (lv' := [(2, .ref (g 8 (nI i).toNatClampNeg)), (4, .ref (g 8 (nI i).toNatClampNeg)), (3, .int (nI i)), (0, .ref (g 0 0)), (1, .ref (g 6 sailing.toNatClampNeg))]) hx hb dX5_firstInLine_52 rfl hl (by decide) rfl (fun ls hl => ?_)
      exact J_2 (nI i) H locs ls ((if_neg c_4).symm.trans ((if_neg c_3).symm.trans (if_neg c_2).symm)) hP hS (by rw [on_o (g := g) (k := 8) (vp_nm (vp_in_nI (n := i) (by omega) (by omega)))]; exact lv_sub hl [1, 2, 0, 3, 4] rfl)
  exact L_5 101 0 ((-1) : Int32) H locs ls (by omega) (Nat.zero_le _) rfl (Or.inl rfl) hP hS (by rw [on_n (g := g) (k := 8)]; exact lv_sub hl [0, 1, 2, 3] rfl)
set_option maxHeartbeats 4000000 in
set_option maxRecDepth 100000 in
theorem c_X5_firstInLine (l : Launch) {D : va_G} {A : Nat → Prop} {cI cO : ClassId} {g : Gh} {cap N : Nat → Nat} (σ : St) (sailing : Int32) (hI : KI cap N σ) (h_sailing : vp_in sailing (N 6)) : Met l yX5_firstInLine wsX5_firstInLine ({ frames := 3, cells := 0, slots := 0, locals := 64 }) (va_Pc [.ref (g 0 0), .ref (g 6 sailing.toNatClampNeg)] (cU D cI cO A g cap N σ)) (va_Qq (fun r (_ : Unit) => r = on g 8 (q_X5_firstInLine σ sailing)) (fun _ t => cU D cI cO A g cap N (σ) t) A) 0 0 A := by
  refine Met.ofW (cc := cX5_firstInLine) (maxL := 5) (ret := (some (.object "IsleBoats$Booking"))) (by decide) rfl ?_
  intro p e s m args below meth c s₁ B hml hv
  obtain ⟨rfl, hP, hK⟩ := hv
  have E : kE p c cX5_firstInLine s m ([.ref (g 0 0), .ref (g 6 sailing.toNatClampNeg)] : List Value).toArray wsX5_firstInLine RX5 D cI cO := ⟨⟨B.exec, B.bytes⟩, atoms_spec (ws := wsX5_firstInLine) B.pre, findClass_of_methodNamed B.named, hK⟩
  have hr := B.returns
  have hlocks := B.notSynchronized
  have hl := lv_entry ([.ref (g 0 0), .ref (g 6 sailing.toNatClampNeg)]) (n := 5) (Nat.le_of_ble_eq_true rfl)
  rw [lg_entry_eq]
  generalize (lg_sl ([.ref (g 0 0), .ref (g 6 sailing.toNatClampNeg)]) ++ List.replicate (5 - (lg_sl ([.ref (g 0 0), .ref (g 6 sailing.toNatClampNeg)])).length) Slot.unset).toArray = ls at hl ⊢
  refine w_X5_firstInLine σ sailing hI h_sailing E hml ⟨Nat.le_of_ble_eq_true rfl, Nat.le_of_ble_eq_true rfl⟩ ⟨Nat.zero_le _, Nat.zero_le _⟩ hP va_S.rf hl (fun pc v H1 locs1 ls1 hd hv hP1 hS1 => ?_)
  exact W.aret (v := va_rf (on g 8 v)) B.exec B.bytes hr (Or.inl ⟨_, rfl⟩) (va_rf_or _) (fun t ht hW => ⟨⟨_, (), rfl, by rw [hv], by rw [ht]; exact hP1, va_K.moved hW.alike hK⟩, hS1.F ht⟩) hS1.2.2 hd
def lf_X5_nextSailingLike_4 (σ : St) (missed : Int32) : Nat → Nat → Int32 → Int32
  | 0, _, x2 => x2
  | n + 1, i, x2 => if (σ 54 2) ≤ (nI i) then x2 else (lf_X5_nextSailingLike_4 σ missed n (i + 1) (if (σ 22 (nI i).toNatClampNeg) = 0 then (if (σ 24 (nI i).toNatClampNeg) = (σ 24 missed.toNatClampNeg) then (if (σ 25 (nI i).toNatClampNeg) = (σ 25 missed.toNatClampNeg) then (if x2 = ((-1) : Int32) then (nI i) else (if (σ 26 x2.toNatClampNeg) ≤ (σ 26 (nI i).toNatClampNeg) then x2 else (nI i))) else x2) else x2) else x2))
def q_X5_nextSailingLike (σ : St) (missed : Int32) : Int32 := (lf_X5_nextSailingLike_4 σ missed 61 0 ((-1) : Int32))
set_option maxHeartbeats 1000000 in
set_option maxRecDepth 100000 in
theorem w_X5_nextSailingLike {p : Program} {l : Launch} {e : Env} {R : Room} {s : State} {m : MethodId} {args : Array Value} {below : List Frame} {meth : Method} {c : Code} {H : Heap} {locs : List Loc} {cells slots : Nat} {Q : State → Prop} {D : va_G} {A : Nat → Prop} {cI cO : ClassId} {g : Gh} {cap N : Nat → Nat} {ls : Array Slot} (σ : St) (missed : Int32) (hI : KI cap N σ) (h_missed : vp_in missed (N 6)) (E : kE p c cX5_nextSailingLike s m args wsX5_nextSailingLike RX5 D cI cO) (hml : c.maxLocals = 5) (hR : 3 ≤ R.frames ∧ 64 ≤ R.locals) (hf : cells ≤ R.cells ∧ slots ≤ R.slots) (hP : cP D cI cO A g cap N σ H) (hS : va_S A s.heap H locs) (hl : lv_has ls 5 [(0, .ref (g 0 0)), (1, .ref (g 6 missed.toNatClampNeg))]) (kr : ∀ (pc : Nat) (rv : Int32) (H1 : Heap) (locs1 : List Loc) (ls1 : Array Slot), decode cX5_nextSailingLike pc = .ok (.areturn, 1) → rv = q_X5_nextSailingLike σ missed → cP D cI cO A g cap N σ H1 → va_S A s.heap H1 locs1 → W p l e R s m args below meth c H1 locs1 cells slots Q (F0 m pc ls1 [va_rf (on g 6 rv)])) : W p l e R s m args below meth c H locs cells slots Q (F0 m 0 ls []) := by
  have hx := E.1.1
  have hb := E.1.2
  have hts := E.2.1
  obtain ⟨n0, n4, n5, n6, n8, n7, n1, n2, n3⟩ := id hI.1
  have i_X3 : ∀ w ∈ wsX30, w ∈ wsX5_nextSailingLike := by decide +kernel
  have i_X5 : ∀ w ∈ wsX50, w ∈ wsX5_nextSailingLike := by decide +kernel
  have hq : q_X5_nextSailingLike σ missed = (lf_X5_nextSailingLike_4 σ missed 61 0 ((-1) : Int32)) := rfl
  refine lv_null hx hb dX5_nextSailingLike_0 ?_
  refine lv_astore_nN (lv' := [(2, .null), (0, .ref (g 0 0)), (1, .ref (g 6 missed.toNatClampNeg))]) hx hb dX5_nextSailingLike_1 rfl hl (by decide) rfl (fun ls hl => ?_)
  refine lv_iconst (v := 0) hx hb dX5_nextSailingLike_2 (by decide) ?_
  refine lv_istore_n (lv' := [(3, .int (0 : Int32)), (2, .null), (0, .ref (g 0 0)), (1, .ref (g 6 missed.toNatClampNeg))]) hx hb dX5_nextSailingLike_3 rfl hl (by decide) rfl (fun ls hl => ?_)
  obtain ⟨C, hC, eC⟩ : ∃ C : Nat, C = N 6 ∧ σ 54 2 = nI C := ⟨N 6, rfl, hI.2.1.2.2.1⟩
  have L_7 : ∀ (n : Nat) (i : Nat) (x2 : Int32) (H : Heap) (locs : List Loc) (ls : Array Slot), i + n = 61 → i ≤ C → lf_X5_nextSailingLike_4 σ missed n i x2 = lf_X5_nextSailingLike_4 σ missed 61 0 ((-1) : Int32) → nx x2 (N 6) → cP D cI cO A g cap N σ H → va_S A s.heap H locs → lv_has ls 5 [(3, .int (nI i)), (2, va_rf (on g 6 x2)), (0, .ref (g 0 0)), (1, .ref (g 6 missed.toNatClampNeg))] → W p l e R s m args below meth c H locs cells slots Q (F0 m 4 ls []) := by
    intro n
    induction n with
    | zero => intro i x2 H locs ls hin hiC; omega
    | succ n ih =>
      intro i x2 H locs ls hin hiC hfin hv hP hS hl
      have hfin : (if (σ 54 2) ≤ (nI i) then x2 else (lf_X5_nextSailingLike_4 σ missed n (i + 1) (if (σ 22 (nI i).toNatClampNeg) = 0 then (if (σ 24 (nI i).toNatClampNeg) = (σ 24 missed.toNatClampNeg) then (if (σ 25 (nI i).toNatClampNeg) = (σ 25 missed.toNatClampNeg) then (if x2 = ((-1) : Int32) then (nI i) else (if (σ 26 x2.toNatClampNeg) ≤ (σ 26 (nI i).toNatClampNeg) then x2 else (nI i))) else x2) else x2) else x2))) = lf_X5_nextSailingLike_4 σ missed 61 0 ((-1) : Int32) := hfin
      refine lv_iload_n hx hb dX5_nextSailingLike_4 rfl (lv_at hl 0 rfl) ?_
      refine lv_aload_n hx hb dX5_nextSailingLike_5 rfl (lv_at hl 2 rfl) ?_
      refine cg_X5_sailings E i_X5 hP (by omega) (by decide +kernel) dX5_nextSailingLike_6 ?_
      refine kcV_i E hml hP hS (kr_1 E.2.2.2 hP ⟨by decide, by omega, fun z => absurd z (by decide)⟩) (c_AL_size l σ 2 ⟨by decide, by omega, fun z => absurd z (by decide)⟩) (cwV 0 hts gX5_nextSailingLike_Jx4a65c_size_8abf5 rfl rfl rfl (by decide +kernel) ⟨Nat.le_trans (Nat.le_of_ble_eq_true rfl) hR.1, Nat.le_trans (Nat.le_of_ble_eq_true rfl) hR.2⟩) rfl hl.1 rfl (Nat.le_of_ble_eq_true rfl) dX5_nextSailingLike_9 hf (fun H locs hP hS => ?_)
      refine lv_icmp_ge (tgt := 85) hx hb dX5_nextSailingLike_12 (by decide) (fun c_1 => ?_) (fun c_1 => ?_)
      · have hfin := (if_pos c_1).symm.trans hfin
        subst hfin
        have hl := lv_sub hl [1, 2, 3] rfl
        refine lv_aload_nQ hx hb dX5_nextSailingLike_85 rfl (lv_at hl 0 rfl) ?_
        exact kr _ (lf_X5_nextSailingLike_4 σ missed 61 0 ((-1) : Int32)) H locs ls dX5_nextSailingLike_86 hq.symm hP hS
      have hfin := (if_neg c_1).symm.trans hfin
      have hlt : i < C := m_lt eC c_1 (by omega) (by omega)
      refine lv_aload_n hx hb dX5_nextSailingLike_15 rfl (lv_at hl 2 rfl) ?_
      refine cg_X5_sailings E i_X5 hP (by omega) (by decide +kernel) dX5_nextSailingLike_16 ?_
      refine lv_iload_n hx hb dX5_nextSailingLike_19 rfl (lv_at hl 0 rfl) ?_
      refine kcV_r (v := g 6 (nI i).toNatClampNeg) E hml hP hS (kr_1 E.2.2.2 hP ⟨by decide, by omega, fun z => absurd z (by decide)⟩) (c_AL_get l σ 2 (nI i) ⟨by decide, by omega, fun z => absurd z (by decide)⟩ n2 (hI.2.2.2.2.2 _ (by omega)) (by rw [hI.2.1.2.2.1, nI_clamp (by omega)]; exact (vp_in_nI (n := i) (by omega) (by omega)))) (cwV 1 hts gX5_nextSailingLike_Jx4a65c_get_915e3 rfl rfl rfl (by decide +kernel) ⟨Nat.le_trans (Nat.le_of_ble_eq_true rfl) hR.1, Nat.le_trans (Nat.le_of_ble_eq_true rfl) hR.2⟩) rfl hl.1 rfl (Nat.le_of_ble_eq_true rfl) dX5_nextSailingLike_20 hf (fun H locs hP hS => ?_)
      refine kcast E (E.2.2.2.1 6 _ rfl).2 (kr_6 E.2.2.2 hP ⟨by decide, vp_lt (vp_in_nI (n := i) (by omega) (by omega)), fun z => absurd z (by decide)⟩) (by decide +kernel) dX5_nextSailingLike_23 ?_
      refine lv_astore (lv' := [(4, .ref (g 6 (nI i).toNatClampNeg)), (3, .int (nI i)), (2, va_rf (on g 6 x2)), (0, .ref (g 0 0)), (1, .ref (g 6 missed.toNatClampNeg))]) hx hb dX5_nextSailingLike_26 hl (by decide) rfl (fun ls hl => ?_)
      refine lv_aload hx hb dX5_nextSailingLike_28 (lv_at hl 0 rfl) ?_
      refine cg_X3_state E i_X3 hP (vp_in_nI (n := i) (by omega) (by omega)) (by decide +kernel) dX5_nextSailingLike_30 ?_
      have J_2 : ∀ (y2_l2 : Int32) (H : Heap) (locs : List Loc) (ls : Array Slot), y2_l2 = (if (σ 22 (nI i).toNatClampNeg) = 0 then (if (σ 24 (nI i).toNatClampNeg) = (σ 24 missed.toNatClampNeg) then (if (σ 25 (nI i).toNatClampNeg) = (σ 25 missed.toNatClampNeg) then (if x2 = ((-1) : Int32) then (nI i) else (if (σ 26 x2.toNatClampNeg) ≤ (σ 26 (nI i).toNatClampNeg) then x2 else (nI i))) else x2) else x2) else x2) → cP D cI cO A g cap N σ H → va_S A s.heap H locs → lv_has ls 5 [(2, va_rf (on g 6 y2_l2)), (4, .ref (g 6 (nI i).toNatClampNeg)), (3, .int (nI i)), (0, .ref (g 0 0)), (1, .ref (g 6 missed.toNatClampNeg))] → W p l e R s m args below meth c H locs cells slots Q (F0 m 79 ls []) := by
        intro y2_l2 H locs ls e_y2_l2 hP hS hl
        subst e_y2_l2
        refine lv_iinc (v := nI (i + 1)) (lv' := [(3, .int (nI (i + 1))), (2, va_rf (on g 6 (if (σ 22 (nI i).toNatClampNeg) = 0 then (if (σ 24 (nI i).toNatClampNeg) = (σ 24 missed.toNatClampNeg) then (if (σ 25 (nI i).toNatClampNeg) = (σ 25 missed.toNatClampNeg) then (if x2 = ((-1) : Int32) then (nI i) else (if (σ 26 x2.toNatClampNeg) ≤ (σ 26 (nI i).toNatClampNeg) then x2 else (nI i))) else x2) else x2) else x2))), (4, .ref (g 6 (nI i).toNatClampNeg)), (0, .ref (g 0 0)), (1, .ref (g 6 missed.toNatClampNeg))]) hx hb dX5_nextSailingLike_79 hl (k := 2) rfl (by first | rfl | exact nI_1 _) (by decide) (by simp [va_cat]) (fun ls hl => ?_)
        refine lv_goto (tgt := 4) hx hb dX5_nextSailingLike_82 (by decide) ?_
        exact ih (i + 1) (if (σ 22 (nI i).toNatClampNeg) = 0 then (if (σ 24 (nI i).toNatClampNeg) = (σ 24 missed.toNatClampNeg) then (if (σ 25 (nI i).toNatClampNeg) = (σ 25 missed.toNatClampNeg) then (if x2 = ((-1) : Int32) then (nI i) else (if (σ 26 x2.toNatClampNeg) ≤ (σ 26 (nI i).toNatClampNeg) then x2 else (nI i))) else x2) else x2) else x2) H locs ls (by omega) (by omega) hfin (by repeat (first | with_reducible exact hv | with_reducible exact nx_in (vp_in_nI (by omega) (by omega)) | with_reducible apply nx_if)) hP hS (lv_sub hl [0, 1, 3, 4] rfl)
      refine lv_if_ne (tgt := 79) hx hb dX5_nextSailingLike_33 (by decide) (fun c_2 => ?_) (fun c_2 => ?_)
      · exact J_2 x2 H locs ls (if_neg c_2).symm hP hS (lv_sub hl [2, 0, 1, 3, 4] rfl)
      refine lv_aload hx hb dX5_nextSailingLike_36 (lv_at hl 0 rfl) ?_
      refine cg_X3_from E i_X3 hP (vp_in_nI (n := i) (by omega) (by omega)) (by decide +kernel) dX5_nextSailingLike_38 ?_
      refine lv_aload_n hx hb dX5_nextSailingLike_41 rfl (lv_at hl 4 rfl) ?_
      refine cg_X3_from E i_X3 hP h_missed (by decide +kernel) dX5_nextSailingLike_42 ?_
      refine kacmp_ne (tgt := 79) E hP ⟨by decide, by decide⟩ ((hI.2.2.1 _ (vp_lt (vp_in_nI (n := i) (by omega) (by omega)))).2.1) ((hI.2.2.1 _ (vp_lt h_missed)).2.1) (by omega) dX5_nextSailingLike_45 (by decide) (fun c_3 => ?_) (fun c_3 => ?_)
      · exact J_2 x2 H locs ls ((if_neg c_3).symm.trans (if_pos c_2).symm) hP hS (lv_sub hl [2, 0, 1, 3, 4] rfl)
      refine lv_aload hx hb dX5_nextSailingLike_48 (lv_at hl 0 rfl) ?_
      refine cg_X3_to E i_X3 hP (vp_in_nI (n := i) (by omega) (by omega)) (by decide +kernel) dX5_nextSailingLike_50 ?_
      refine lv_aload_n hx hb dX5_nextSailingLike_53 rfl (lv_at hl 4 rfl) ?_
      refine cg_X3_to E i_X3 hP h_missed (by decide +kernel) dX5_nextSailingLike_54 ?_
      refine kacmp_ne (tgt := 79) E hP ⟨by decide, by decide⟩ ((hI.2.2.1 _ (vp_lt (vp_in_nI (n := i) (by omega) (by omega)))).2.2) ((hI.2.2.1 _ (vp_lt h_missed)).2.2) (by omega) dX5_nextSailingLike_57 (by decide) (fun c_4 => ?_) (fun c_4 => ?_)
      · exact J_2 x2 H locs ls ((if_neg c_4).symm.trans ((if_pos c_3).symm.trans (if_pos c_2).symm)) hP hS (lv_sub hl [2, 0, 1, 3, 4] rfl)
      refine lv_aload_nQ hx hb dX5_nextSailingLike_60 rfl (lv_at hl 2 rfl) ?_
      refine lv_ifnullQ (tgt := 76) hx hb dX5_nextSailingLike_61 (by decide) (fun c_5 => ?_) (fun c_5 => ?_)
      · refine lv_aload hx hb dX5_nextSailingLike_76 (lv_at hl 0 rfl) ?_
        refine lv_astore_n (lv' := [(2, .ref (g 6 (nI i).toNatClampNeg)), (4, .ref (g 6 (nI i).toNatClampNeg)), (3, .int (nI i)), (0, .ref (g 0 0)), (1, .ref (g 6 missed.toNatClampNeg))]) hx hb dX5_nextSailingLike_78 rfl hl (by decide) rfl (fun ls hl => ?_)
        exact J_2 (nI i) H locs ls ((if_pos c_5).symm.trans ((if_pos c_4).symm.trans ((if_pos c_3).symm.trans (if_pos c_2).symm))) hP hS (by rw [on_o (g := g) (k := 6) (vp_nm (vp_in_nI (n := i) (by omega) (by omega)))]; exact lv_sub hl [0, 1, 2, 3, 4] rfl)
      refine lv_aload hx hb dX5_nextSailingLike_64 (lv_at hl 0 rfl) ?_
      refine cg_X3_departure E i_X3 hP (vp_in_nI (n := i) (by omega) (by omega)) (by decide +kernel) dX5_nextSailingLike_66 ?_
      refine lv_aload_nQ hx hb dX5_nextSailingLike_69 rfl (lv_at hl 2 rfl) ?_
      rw [on_o (g := g) (k := 6) c_5]
      refine cg_X3_departure E i_X3 hP (Or.resolve_left hv (by assumption)) (by decide +kernel) dX5_nextSailingLike_70 ?_
      refine lv_icmp_ge (tgt := 79) hx hb dX5_nextSailingLike_73 (by decide) (fun c_6 => ?_) (fun c_6 => ?_)
      · exact J_2 x2 H locs ls ((if_pos c_6).symm.trans ((if_neg c_5).symm.trans ((if_pos c_4).symm.trans ((if_pos c_3).symm.trans (if_pos c_2).symm)))) hP hS (lv_sub hl [2, 0, 1, 3, 4] rfl)
      refine lv_aload hx hb dX5_nextSailingLike_76 (lv_at hl 0 rfl) ?_
      refine lv_astore_n (lv' := [(2, .ref (g 6 (nI i).toNatClampNeg)), (4, .ref (g 6 (nI i).toNatClampNeg)), (3, .int (nI i)), (0, .ref (g 0 0)), (1, .ref (g 6 missed.toNatClampNeg))]) hx hb dX5_nextSailingLike_78 rfl hl (by decide) rfl (fun ls hl => ?_)
      exact J_2 (nI i) H locs ls ((if_neg c_6).symm.trans ((if_neg c_5).symm.trans ((if_pos c_4).symm.trans ((if_pos c_3).symm.trans (if_pos c_2).symm)))) hP hS (by rw [on_o (g := g) (k := 6) (vp_nm (vp_in_nI (n := i) (by omega) (by omega)))]; exact lv_sub hl [0, 1, 2, 3, 4] rfl)
  exact L_7 61 0 ((-1) : Int32) H locs ls (by omega) (Nat.zero_le _) rfl (Or.inl rfl) hP hS (by rw [on_n (g := g) (k := 6)]; exact lv_sub hl [0, 1, 2, 3] rfl)
set_option maxHeartbeats 4000000 in
set_option maxRecDepth 100000 in
theorem c_X5_nextSailingLike (l : Launch) {D : va_G} {A : Nat → Prop} {cI cO : ClassId} {g : Gh} {cap N : Nat → Nat} (σ : St) (missed : Int32) (hI : KI cap N σ) (h_missed : vp_in missed (N 6)) : Met l yX5_nextSailingLike wsX5_nextSailingLike ({ frames := 3, cells := 0, slots := 0, locals := 64 }) (va_Pc [.ref (g 0 0), .ref (g 6 missed.toNatClampNeg)] (cU D cI cO A g cap N σ)) (va_Qq (fun r (_ : Unit) => r = on g 6 (q_X5_nextSailingLike σ missed)) (fun _ t => cU D cI cO A g cap N (σ) t) A) 0 0 A := by
  refine Met.ofW (cc := cX5_nextSailingLike) (maxL := 5) (ret := (some (.object "IsleBoats$Sailing"))) (by decide) rfl ?_
  intro p e s m args below meth c s₁ B hml hv
  obtain ⟨rfl, hP, hK⟩ := hv
  have E : kE p c cX5_nextSailingLike s m ([.ref (g 0 0), .ref (g 6 missed.toNatClampNeg)] : List Value).toArray wsX5_nextSailingLike RX5 D cI cO := ⟨⟨B.exec, B.bytes⟩, atoms_spec (ws := wsX5_nextSailingLike) B.pre, findClass_of_methodNamed B.named, hK⟩
  have hr := B.returns
  have hlocks := B.notSynchronized
  have hl := lv_entry ([.ref (g 0 0), .ref (g 6 missed.toNatClampNeg)]) (n := 5) (Nat.le_of_ble_eq_true rfl)
  rw [lg_entry_eq]
  generalize (lg_sl ([.ref (g 0 0), .ref (g 6 missed.toNatClampNeg)]) ++ List.replicate (5 - (lg_sl ([.ref (g 0 0), .ref (g 6 missed.toNatClampNeg)])).length) Slot.unset).toArray = ls at hl ⊢
  refine w_X5_nextSailingLike σ missed hI h_missed E hml ⟨Nat.le_of_ble_eq_true rfl, Nat.le_of_ble_eq_true rfl⟩ ⟨Nat.zero_le _, Nat.zero_le _⟩ hP va_S.rf hl (fun pc v H1 locs1 ls1 hd hv hP1 hS1 => ?_)
  exact W.aret (v := va_rf (on g 6 v)) B.exec B.bytes hr (Or.inl ⟨_, rfl⟩) (va_rf_or _) (fun t ht hW => ⟨⟨_, (), rfl, by rw [hv], by rw [ht]; exact hP1, va_K.moved hW.alike hK⟩, hS1.F ht⟩) hS1.2.2 hd
theorem nsl_nx {cap N : Nat → Nat} {σ : St} (hI : KI cap N σ) {missed : Int32} : ∀ (n i : Nat) (x : Int32), i + n ≤ 61 → nx x (N 6) → nx (lf_X5_nextSailingLike_4 σ missed n i x) (N 6) := by
  obtain ⟨n0, n4, n5, n6, n8, n7, n1, n2, n3⟩ := id hI.1
  have eC := hI.2.1.2.2.1
  intro n
  induction n with
  | zero => intro i x _ h; exact h
  | succ n ih =>
    intro i x hi h
    show nx (if (σ 54 2) ≤ (nI i) then x else _) (N 6)
    by_cases hc : (σ 54 2) ≤ (nI i)
    · rw [if_pos hc]; exact h
    · rw [if_neg hc]
      have hlt := m_lt eC hc (by omega) (by omega)
      refine ih _ _ (by omega) ?_
      repeat (first | with_reducible exact h | with_reducible exact nx_in (vp_in_nI (by omega) (by omega)) | with_reducible apply nx_if)
theorem nsl_in {cap N : Nat → Nat} {σ : St} (hI : KI cap N σ) {missed : Int32} (hn : ¬ q_X5_nextSailingLike σ missed = -1) : vp_in (q_X5_nextSailingLike σ missed) (N 6) := Or.resolve_left (nsl_nx hI 61 0 (-1) (by omega) (Or.inl rfl)) hn
def s_X5_leaveBehind (σ : St) (b_ : Int32) (why : Int32) : St := if (q_X5_nextSailingLike (st (st σ 44 b_.toNatClampNeg why) 43 b_.toNatClampNeg ((σ 43 b_.toNatClampNeg) + (1 : Int32))) (σ 36 b_.toNatClampNeg)) = ((-1) : Int32) then (st (st (st σ 44 b_.toNatClampNeg why) 43 b_.toNatClampNeg ((σ 43 b_.toNatClampNeg) + (1 : Int32))) 35 b_.toNatClampNeg (3 : Int32)) else (st (st (st σ 44 b_.toNatClampNeg why) 43 b_.toNatClampNeg ((σ 43 b_.toNatClampNeg) + (1 : Int32))) 36 b_.toNatClampNeg (q_X5_nextSailingLike (st (st σ 44 b_.toNatClampNeg why) 43 b_.toNatClampNeg ((σ 43 b_.toNatClampNeg) + (1 : Int32))) (σ 36 b_.toNatClampNeg)))
set_option maxHeartbeats 1000000 in
set_option maxRecDepth 100000 in
theorem w_X5_leaveBehind {p : Program} {l : Launch} {e : Env} {R : Room} {s : State} {m : MethodId} {args : Array Value} {below : List Frame} {meth : Method} {c : Code} {H : Heap} {locs : List Loc} {cells slots : Nat} {Q : State → Prop} {D : va_G} {A : Nat → Prop} {cI cO : ClassId} {g : Gh} {cap N : Nat → Nat} {ls : Array Slot} (σ : St) (b_ : Int32) (why : Int32) (hI : KI cap N σ) (h_b_ : vp_in b_ (N 8)) (E : kE p c cX5_leaveBehind s m args wsX5_leaveBehind RX5 D cI cO) (hml : c.maxLocals = 4) (hR : 4 ≤ R.frames ∧ 88 ≤ R.locals) (hf : cells ≤ R.cells ∧ slots ≤ R.slots) (hP : cP D cI cO A g cap N σ H) (hS : va_S A s.heap H locs) (hl : lv_has ls 4 [(0, .ref (g 0 0)), (1, .ref (g 8 b_.toNatClampNeg)), (2, .int why)]) (kr : ∀ (pc : Nat) (H1 : Heap) (locs1 : List Loc) (ls1 : Array Slot), decode cX5_leaveBehind pc = .ok (.return_, 1) → cP D cI cO A g cap N (s_X5_leaveBehind σ b_ why) H1 → va_S A s.heap H1 locs1 → W p l e R s m args below meth c H1 locs1 cells slots Q (F0 m pc ls1 [])) : W p l e R s m args below meth c H locs cells slots Q (F0 m 0 ls []) := by
  have hx := E.1.1
  have hb := E.1.2
  have hts := E.2.1
  obtain ⟨n0, n4, n5, n6, n8, n7, n1, n2, n3⟩ := id hI.1
  have i_X1 : ∀ w ∈ wsX10, w ∈ wsX5_leaveBehind := by decide +kernel
  have hs : s_X5_leaveBehind σ b_ why = if (q_X5_nextSailingLike (st (st σ 44 b_.toNatClampNeg why) 43 b_.toNatClampNeg ((σ 43 b_.toNatClampNeg) + (1 : Int32))) (σ 36 b_.toNatClampNeg)) = ((-1) : Int32) then (st (st (st σ 44 b_.toNatClampNeg why) 43 b_.toNatClampNeg ((σ 43 b_.toNatClampNeg) + (1 : Int32))) 35 b_.toNatClampNeg (3 : Int32)) else (st (st (st σ 44 b_.toNatClampNeg why) 43 b_.toNatClampNeg ((σ 43 b_.toNatClampNeg) + (1 : Int32))) 36 b_.toNatClampNeg (q_X5_nextSailingLike (st (st σ 44 b_.toNatClampNeg why) 43 b_.toNatClampNeg ((σ 43 b_.toNatClampNeg) + (1 : Int32))) (σ 36 b_.toNatClampNeg))) := rfl
  refine lv_aload_n hx hb dX5_leaveBehind_0 rfl (lv_at hl 1 rfl) ?_
  refine lv_iload_n hx hb dX5_leaveBehind_1 rfl (lv_at hl 2 rfl) ?_
  refine cp_X1_reason E i_X1 hP hS h_b_ (by decide +kernel) dX5_leaveBehind_2 (fun H locs hP hS => ?_)
  refine lv_aload_n hx hb dX5_leaveBehind_5 rfl (lv_at hl 1 rfl) ?_
  refine lv_dup hx hb dX5_leaveBehind_6 rfl ?_
  refine cg_X1_points E i_X1 hP h_b_ (by decide +kernel) dX5_leaveBehind_7 ?_
  show W p l e R s m args below meth c H locs cells slots Q (F0 m 10 ls [.int (σ 43 b_.toNatClampNeg), .ref (g 8 b_.toNatClampNeg)])
  refine lv_iconst (v := 1) hx hb dX5_leaveBehind_10 (by decide) ?_
  refine lv_iadd hx hb dX5_leaveBehind_11 ?_
  refine cp_X1_points E i_X1 hP hS h_b_ (by decide +kernel) dX5_leaveBehind_12 (fun H locs hP hS => ?_)
  refine lv_aload_n hx hb dX5_leaveBehind_15 rfl (lv_at hl 0 rfl) ?_
  refine lv_aload_n hx hb dX5_leaveBehind_16 rfl (lv_at hl 1 rfl) ?_
  refine cg_X1_sailing E i_X1 hP h_b_ (by decide +kernel) dX5_leaveBehind_17 ?_
  show W p l e R s m args below meth c H locs cells slots Q (F0 m 20 ls [.ref (g 6 (σ 36 b_.toNatClampNeg).toNatClampNeg), .ref (g 0 0)])
  refine kcV_q E hml hP hS (kr_0 E.2.2.2 hP ⟨by decide, by omega, fun z => absurd z (by decide)⟩) (c_X5_nextSailingLike l (st (st σ 44 b_.toNatClampNeg why) 43 b_.toNatClampNeg ((σ 43 b_.toNatClampNeg) + (1 : Int32))) (σ 36 b_.toNatClampNeg) (KI_o (KI_o hI (by decide)) (by decide)) (hI.2.2.2.1 _ (vp_lt h_b_))) (cwV 1 hts gX5_leaveBehind_X5_nextSailingLike rfl rfl rfl (by decide +kernel) ⟨Nat.le_trans (Nat.le_of_ble_eq_true rfl) hR.1, Nat.le_trans (Nat.le_of_ble_eq_true rfl) hR.2⟩) rfl hl.1 rfl (Nat.le_of_ble_eq_true rfl) dX5_leaveBehind_20 hf (fun H locs hP hS => ?_)
  refine lv_astore_nQ (lv' := [(3, va_rf (on g 6 (q_X5_nextSailingLike (st (st σ 44 b_.toNatClampNeg why) 43 b_.toNatClampNeg ((σ 43 b_.toNatClampNeg) + (1 : Int32))) (σ 36 b_.toNatClampNeg)))), (0, .ref (g 0 0)), (1, .ref (g 8 b_.toNatClampNeg)), (2, .int why)]) hx hb dX5_leaveBehind_23 rfl hl (by decide) rfl (fun ls hl => ?_)
  refine lv_aload_nQ hx hb dX5_leaveBehind_24 rfl (lv_at hl 0 rfl) ?_
  have J_1 : ∀ (ρ1 : St) (H : Heap) (locs : List Loc) (ls : Array Slot), ρ1 = (if (q_X5_nextSailingLike (st (st σ 44 b_.toNatClampNeg why) 43 b_.toNatClampNeg ((σ 43 b_.toNatClampNeg) + (1 : Int32))) (σ 36 b_.toNatClampNeg)) = ((-1) : Int32) then (st (st (st σ 44 b_.toNatClampNeg why) 43 b_.toNatClampNeg ((σ 43 b_.toNatClampNeg) + (1 : Int32))) 35 b_.toNatClampNeg (3 : Int32)) else (st (st (st σ 44 b_.toNatClampNeg why) 43 b_.toNatClampNeg ((σ 43 b_.toNatClampNeg) + (1 : Int32))) 36 b_.toNatClampNeg (q_X5_nextSailingLike (st (st σ 44 b_.toNatClampNeg why) 43 b_.toNatClampNeg ((σ 43 b_.toNatClampNeg) + (1 : Int32))) (σ 36 b_.toNatClampNeg)))) → cP D cI cO A g cap N ρ1 H → va_S A s.heap H locs → lv_has ls 4 [(3, va_rf (on g 6 (q_X5_nextSailingLike (st (st σ 44 b_.toNatClampNeg why) 43 b_.toNatClampNeg ((σ 43 b_.toNatClampNeg) + (1 : Int32))) (σ 36 b_.toNatClampNeg)))), (0, .ref (g 0 0)), (1, .ref (g 8 b_.toNatClampNeg)), (2, .int why)] → W p l e R s m args below meth c H locs cells slots Q (F0 m 41 ls []) := by
    intro ρ1 H locs ls e_ρ1 hP hS hl
    subst e_ρ1
    exact kr _ H locs ls dX5_leaveBehind_41 (by rw [hs]; exact hP) hS
  refine lv_ifnonnullQ (tgt := 36) hx hb dX5_leaveBehind_25 (by decide) (fun c_1 => ?_) (fun c_1 => ?_)
  · refine lv_aload_n hx hb dX5_leaveBehind_36 rfl (lv_at hl 2 rfl) ?_
    refine lv_aload_nQ hx hb dX5_leaveBehind_37 rfl (lv_at hl 0 rfl) ?_
    rw [on_o (g := g) (k := 6) c_1]
    refine cp_X1_sailing E i_X1 hP hS h_b_ (by decide +kernel) dX5_leaveBehind_38 (fun H locs hP hS => ?_)
    exact J_1 (st (st (st σ 44 b_.toNatClampNeg why) 43 b_.toNatClampNeg ((σ 43 b_.toNatClampNeg) + (1 : Int32))) 36 b_.toNatClampNeg (q_X5_nextSailingLike (st (st σ 44 b_.toNatClampNeg why) 43 b_.toNatClampNeg ((σ 43 b_.toNatClampNeg) + (1 : Int32))) (σ 36 b_.toNatClampNeg))) H locs ls (if_neg c_1).symm hP hS (lv_sub hl [0, 1, 2, 3] rfl)
  refine lv_aload_n hx hb dX5_leaveBehind_28 rfl (lv_at hl 2 rfl) ?_
  refine lv_iconst (v := 3) hx hb dX5_leaveBehind_29 (by decide) ?_
  refine cp_X1_state E i_X1 hP hS h_b_ (by decide +kernel) dX5_leaveBehind_30 (fun H locs hP hS => ?_)
  refine lv_goto (tgt := 41) hx hb dX5_leaveBehind_33 (by decide) ?_
  exact J_1 (st (st (st σ 44 b_.toNatClampNeg why) 43 b_.toNatClampNeg ((σ 43 b_.toNatClampNeg) + (1 : Int32))) 35 b_.toNatClampNeg (3 : Int32)) H locs ls (if_pos c_1).symm hP hS (lv_sub hl [0, 1, 2, 3] rfl)
set_option maxHeartbeats 4000000 in
set_option maxRecDepth 100000 in
theorem c_X5_leaveBehind (l : Launch) {D : va_G} {A : Nat → Prop} {cI cO : ClassId} {g : Gh} {cap N : Nat → Nat} (σ : St) (b_ : Int32) (why : Int32) (hI : KI cap N σ) (h_b_ : vp_in b_ (N 8)) : Met l yX5_leaveBehind wsX5_leaveBehind ({ frames := 4, cells := 0, slots := 0, locals := 88 }) (va_Pc [.ref (g 0 0), .ref (g 8 b_.toNatClampNeg), .int why] (cU D cI cO A g cap N σ)) (va_Qv (fun (_ : Unit) => True) (fun _ t => cU D cI cO A g cap N (s_X5_leaveBehind σ b_ why) t) A) 0 0 A := by
  refine Met.ofW (cc := cX5_leaveBehind) (maxL := 4) (ret := none) (by decide) rfl ?_
  intro p e s m args below meth c s₁ B hml hv
  obtain ⟨rfl, hP, hK⟩ := hv
  have E : kE p c cX5_leaveBehind s m ([.ref (g 0 0), .ref (g 8 b_.toNatClampNeg), .int why] : List Value).toArray wsX5_leaveBehind RX5 D cI cO := ⟨⟨B.exec, B.bytes⟩, atoms_spec (ws := wsX5_leaveBehind) B.pre, findClass_of_methodNamed B.named, hK⟩
  have hr := B.returns
  have hlocks := B.notSynchronized
  have hl := lv_entry ([.ref (g 0 0), .ref (g 8 b_.toNatClampNeg), .int why]) (n := 4) (Nat.le_of_ble_eq_true rfl)
  rw [lg_entry_eq]
  generalize (lg_sl ([.ref (g 0 0), .ref (g 8 b_.toNatClampNeg), .int why]) ++ List.replicate (4 - (lg_sl ([.ref (g 0 0), .ref (g 8 b_.toNatClampNeg), .int why])).length) Slot.unset).toArray = ls at hl ⊢
  refine w_X5_leaveBehind σ b_ why hI h_b_ E hml ⟨Nat.le_of_ble_eq_true rfl, Nat.le_of_ble_eq_true rfl⟩ ⟨Nat.zero_le _, Nat.zero_le _⟩ hP va_S.rf hl (fun pc H1 locs1 ls1 hd hP1 hS1 => ?_)
  exact W.vret B.exec B.bytes hr (fun t ht hW => ⟨⟨(), rfl, trivial, by rw [ht]; exact hP1, va_K.moved hW.alike hK⟩, hS1.F ht⟩) hS1.2.2 hd
theorem KI_if {P : Prop} {hd : Decidable P} {cap N : Nat → Nat} {a b : St} (ha : P → KI cap N a) (hb : ¬ P → KI cap N b) : KI cap N (if P then a else b) := by
  by_cases hp : P
  · rw [if_pos hp]; exact ha hp
  · rw [if_neg hp]; exact hb hp
theorem KI_s36 {cap N : Nat → Nat} {σ : St} (h : KI cap N σ) {j : Nat} {v : Int32} (hv : vp_in v (N 6)) : KI cap N (st σ 36 j v) := by
  obtain ⟨h1, h2, h3, h4, h5, h6⟩ := h
  refine ⟨h1, h2, h3, fun n hn => ?_, h5, fun q hq => ?_⟩
  · rw [st_at]
    by_cases hk : n = j
    · rw [if_pos ⟨rfl, hk⟩]; exact hv
    · rw [if_neg (fun z => hk z.2)]; exact h4 n hn
  · obtain ⟨C, a, b, c, d⟩ := h6 q hq
    unfold KL
    rw [st_nf σ j v (f := 36) (g := 54) (by decide), st_nf σ j v (f := 36) (g := 100 + q) (by omega)]
    exact ⟨C, a, b, c, d⟩
theorem KI_s_X5_leaveBehind {cap N : Nat → Nat} {σ : St} {b_ why : Int32} (hI : KI cap N σ) (h_b_ : vp_in b_ (N 8)) : KI cap N (s_X5_leaveBehind σ b_ why) := by
  have h1 : KI cap N (st (st σ 44 b_.toNatClampNeg why) 43 b_.toNatClampNeg ((σ 43 b_.toNatClampNeg) + (1 : Int32))) := KI_o (KI_o hI (by decide)) (by decide)
  exact KI_if (fun _ => KI_o h1 (by decide)) (fun hn => KI_s36 h1 (nsl_in h1 hn))
theorem KI_s_X2_tellCancelled {cap N : Nat → Nat} {σ : St} {own why : Int32} (hI : KI cap N σ) : KI cap N (s_X2_tellCancelled σ own why) := by
  unfold s_X2_tellCancelled
  repeat (first | with_reducible exact hI | with_reducible refine KI_o ?_ (by decide) | with_reducible refine KI_if (fun _ => ?_) (fun _ => ?_))
def lf_X5_cancel_20 (σ : St) (sailing : Int32) (why : Int32) : Nat → Nat → St → St
  | 0, _, τ => τ
  | n + 1, i, τ => if (τ 54 3) ≤ (nI i) then τ else (lf_X5_cancel_20 σ sailing why n (i + 1) (if (q_X1_waitsFor τ (nI i) sailing) = 0 then τ else (s_X5_leaveBehind τ (nI i) (5 : Int32))))
def s_X5_cancel (σ : St) (sailing : Int32) (why : Int32) : St := (lf_X5_cancel_20 σ sailing why 101 0 (s_X2_tellCancelled (st (st σ 22 sailing.toNatClampNeg (3 : Int32)) 29 sailing.toNatClampNeg why) (σ 25 sailing.toNatClampNeg) why))
set_option maxHeartbeats 1000000 in
set_option maxRecDepth 100000 in
theorem w_X5_cancel {p : Program} {l : Launch} {e : Env} {R : Room} {s : State} {m : MethodId} {args : Array Value} {below : List Frame} {meth : Method} {c : Code} {H : Heap} {locs : List Loc} {cells slots : Nat} {Q : State → Prop} {D : va_G} {A : Nat → Prop} {cI cO : ClassId} {g : Gh} {cap N : Nat → Nat} {ls : Array Slot} (σ : St) (sailing : Int32) (why : Int32) (hI : KI cap N σ) (h_sailing : vp_in sailing (N 6)) (E : kE p c cX5_cancel s m args wsX5_cancel RX5 D cI cO) (hml : c.maxLocals = 5) (hR : 5 ≤ R.frames ∧ 111 ≤ R.locals) (hf : cells ≤ R.cells ∧ slots ≤ R.slots) (hP : cP D cI cO A g cap N σ H) (hS : va_S A s.heap H locs) (hl : lv_has ls 5 [(0, .ref (g 0 0)), (1, .ref (g 6 sailing.toNatClampNeg)), (2, .int why)]) (kr : ∀ (pc : Nat) (H1 : Heap) (locs1 : List Loc) (ls1 : Array Slot), decode cX5_cancel pc = .ok (.return_, 1) → cP D cI cO A g cap N (s_X5_cancel σ sailing why) H1 → va_S A s.heap H1 locs1 → W p l e R s m args below meth c H1 locs1 cells slots Q (F0 m pc ls1 [])) : W p l e R s m args below meth c H locs cells slots Q (F0 m 0 ls []) := by
  have hx := E.1.1
  have hb := E.1.2
  have hts := E.2.1
  obtain ⟨n0, n4, n5, n6, n8, n7, n1, n2, n3⟩ := id hI.1
  have i_X3 : ∀ w ∈ wsX30, w ∈ wsX5_cancel := by decide +kernel
  have i_X5 : ∀ w ∈ wsX50, w ∈ wsX5_cancel := by decide +kernel
  have hs : s_X5_cancel σ sailing why = (lf_X5_cancel_20 σ sailing why 101 0 (s_X2_tellCancelled (st (st σ 22 sailing.toNatClampNeg (3 : Int32)) 29 sailing.toNatClampNeg why) (σ 25 sailing.toNatClampNeg) why)) := rfl
  refine lv_aload_n hx hb dX5_cancel_0 rfl (lv_at hl 1 rfl) ?_
  refine lv_iconst (v := 3) hx hb dX5_cancel_1 (by decide) ?_
  refine cp_X3_state E i_X3 hP hS h_sailing (by decide +kernel) dX5_cancel_2 (fun H locs hP hS => ?_)
  refine lv_aload_n hx hb dX5_cancel_5 rfl (lv_at hl 1 rfl) ?_
  refine lv_iload_n hx hb dX5_cancel_6 rfl (lv_at hl 2 rfl) ?_
  refine cp_X3_reason E i_X3 hP hS h_sailing (by decide +kernel) dX5_cancel_7 (fun H locs hP hS => ?_)
  refine lv_aload_n hx hb dX5_cancel_10 rfl (lv_at hl 1 rfl) ?_
  refine cg_X3_to E i_X3 hP h_sailing (by decide +kernel) dX5_cancel_11 ?_
  show W p l e R s m args below meth c H locs cells slots Q (F0 m 14 ls [.ref (g 4 (σ 25 sailing.toNatClampNeg).toNatClampNeg)])
  refine lv_iload_n hx hb dX5_cancel_14 rfl (lv_at hl 2 rfl) ?_
  refine kcV_v E hml hP hS (kr_4 E.2.2.2 hP ⟨by decide, vp_lt ((hI.2.2.1 _ (vp_lt h_sailing)).2.2), fun z => absurd z (by decide)⟩) (c_X2_tellCancelled l (st (st σ 22 sailing.toNatClampNeg (3 : Int32)) 29 sailing.toNatClampNeg why) (σ 25 sailing.toNatClampNeg) why (KI_o (KI_o hI (by decide)) (by decide)) ((hI.2.2.1 _ (vp_lt h_sailing)).2.2)) (cwV 1 hts gX5_cancel_X2_tellCancelled rfl rfl rfl (by decide +kernel) ⟨Nat.le_trans (Nat.le_of_ble_eq_true rfl) hR.1, Nat.le_trans (Nat.le_of_ble_eq_true rfl) hR.2⟩) rfl hl.1 rfl (Nat.le_of_ble_eq_true rfl) dX5_cancel_15 hf (fun H locs hP hS => ?_)
  refine lv_iconst (v := 0) hx hb dX5_cancel_18 (by decide) ?_
  refine lv_istore_n (lv' := [(3, .int (0 : Int32)), (0, .ref (g 0 0)), (1, .ref (g 6 sailing.toNatClampNeg)), (2, .int why)]) hx hb dX5_cancel_19 rfl hl (by decide) rfl (fun ls hl => ?_)
  obtain ⟨C, hC, eC⟩ : ∃ C : Nat, C = N 8 ∧ σ 54 3 = nI C := ⟨N 8, rfl, hI.2.1.2.2.2⟩
  have L_3 : ∀ (n : Nat) (i : Nat) (τ : St) (H : Heap) (locs : List Loc) (ls : Array Slot), i + n = 101 → i ≤ C → lf_X5_cancel_20 σ sailing why n i τ = lf_X5_cancel_20 σ sailing why 101 0 (s_X2_tellCancelled (st (st σ 22 sailing.toNatClampNeg (3 : Int32)) 29 sailing.toNatClampNeg why) (σ 25 sailing.toNatClampNeg) why) → KI cap N τ → cP D cI cO A g cap N τ H → va_S A s.heap H locs → lv_has ls 5 [(3, .int (nI i)), (0, .ref (g 0 0)), (1, .ref (g 6 sailing.toNatClampNeg)), (2, .int why)] → W p l e R s m args below meth c H locs cells slots Q (F0 m 20 ls []) := by
    intro n
    induction n with
    | zero => intro i τ H locs ls hin hiC; omega
    | succ n ih =>
      intro i τ H locs ls hin hiC hfin hKτ hP hS hl
      have hIτ := hKτ
      have eCτ : τ 54 3 = nI C := by rw [hC]; exact hIτ.2.1.2.2.2
      have hfin : (if (τ 54 3) ≤ (nI i) then τ else (lf_X5_cancel_20 σ sailing why n (i + 1) (if (q_X1_waitsFor τ (nI i) sailing) = 0 then τ else (s_X5_leaveBehind τ (nI i) (5 : Int32))))) = lf_X5_cancel_20 σ sailing why 101 0 (s_X2_tellCancelled (st (st σ 22 sailing.toNatClampNeg (3 : Int32)) 29 sailing.toNatClampNeg why) (σ 25 sailing.toNatClampNeg) why) := hfin
      refine lv_iload_n hx hb dX5_cancel_20 rfl (lv_at hl 0 rfl) ?_
      refine lv_aload_n hx hb dX5_cancel_21 rfl (lv_at hl 1 rfl) ?_
      refine cg_X5_bookings E i_X5 hP (by omega) (by decide +kernel) dX5_cancel_22 ?_
      refine kcV_i E hml hP hS (kr_1 E.2.2.2 hP ⟨by decide, by omega, fun z => absurd z (by decide)⟩) (c_AL_size l τ 3 ⟨by decide, by omega, fun z => absurd z (by decide)⟩) (cwV 0 hts gX5_cancel_Jx4a65c_size_8abf5 rfl rfl rfl (by decide +kernel) ⟨Nat.le_trans (Nat.le_of_ble_eq_true rfl) hR.1, Nat.le_trans (Nat.le_of_ble_eq_true rfl) hR.2⟩) rfl hl.1 rfl (Nat.le_of_ble_eq_true rfl) dX5_cancel_25 hf (fun H locs hP hS => ?_)
      refine lv_icmp_ge (tgt := 66) hx hb dX5_cancel_28 (by decide) (fun c_1 => ?_) (fun c_1 => ?_)
      · have hfin := (if_pos c_1).symm.trans hfin
        subst hfin
        have hKR3 := hKτ
        have hl := lv_sub hl [1, 2, 3] rfl
        exact kr _ H locs ls dX5_cancel_66 (by rw [hs]; exact hP) hS
      have hfin := (if_neg c_1).symm.trans hfin
      have hlt : i < C := m_lt eCτ c_1 (by omega) (by omega)
      refine lv_aload_n hx hb dX5_cancel_31 rfl (lv_at hl 1 rfl) ?_
      refine cg_X5_bookings E i_X5 hP (by omega) (by decide +kernel) dX5_cancel_32 ?_
      refine lv_iload_n hx hb dX5_cancel_35 rfl (lv_at hl 0 rfl) ?_
      refine kcV_r (v := g 8 (nI i).toNatClampNeg) E hml hP hS (kr_1 E.2.2.2 hP ⟨by decide, by omega, fun z => absurd z (by decide)⟩) (c_AL_get l τ 3 (nI i) ⟨by decide, by omega, fun z => absurd z (by decide)⟩ n2 (hIτ.2.2.2.2.2 _ (by omega)) (by rw [hIτ.2.1.2.2.2, nI_clamp (by omega)]; exact (vp_in_nI (n := i) (by omega) (by omega)))) (cwV 1 hts gX5_cancel_Jx4a65c_get_915e3 rfl rfl rfl (by decide +kernel) ⟨Nat.le_trans (Nat.le_of_ble_eq_true rfl) hR.1, Nat.le_trans (Nat.le_of_ble_eq_true rfl) hR.2⟩) rfl hl.1 rfl (Nat.le_of_ble_eq_true rfl) dX5_cancel_36 hf (fun H locs hP hS => ?_)
      refine kcast E (E.2.2.2.1 4 _ rfl).2 (kr_8 E.2.2.2 hP ⟨by decide, vp_lt (vp_in_nI (n := i) (by omega) (by omega)), fun z => absurd z (by decide)⟩) (by decide +kernel) dX5_cancel_39 ?_
      refine lv_astore (lv' := [(4, .ref (g 8 (nI i).toNatClampNeg)), (3, .int (nI i)), (0, .ref (g 0 0)), (1, .ref (g 6 sailing.toNatClampNeg)), (2, .int why)]) hx hb dX5_cancel_42 hl (by decide) rfl (fun ls hl => ?_)
      refine lv_aload hx hb dX5_cancel_44 (lv_at hl 0 rfl) ?_
      refine lv_aload_n hx hb dX5_cancel_46 rfl (lv_at hl 3 rfl) ?_
      refine kcV_i E hml hP hS (kr_8 E.2.2.2 hP ⟨by decide, vp_lt (vp_in_nI (n := i) (by omega) (by omega)), fun z => absurd z (by decide)⟩) (c_X1_waitsFor l τ (nI i) sailing hIτ (vp_in_nI (n := i) (by omega) (by omega)) h_sailing) (cwV 1 hts gX5_cancel_X1_waitsFor rfl rfl rfl (by decide +kernel) ⟨Nat.le_trans (Nat.le_of_ble_eq_true rfl) hR.1, Nat.le_trans (Nat.le_of_ble_eq_true rfl) hR.2⟩) rfl hl.1 rfl (Nat.le_of_ble_eq_true rfl) dX5_cancel_47 hf (fun H locs hP hS => ?_)
      have J_2 : ∀ (ρ2 : St) (H : Heap) (locs : List Loc) (ls : Array Slot), ρ2 = (if (q_X1_waitsFor τ (nI i) sailing) = 0 then τ else (s_X5_leaveBehind τ (nI i) (5 : Int32))) → KI cap N ρ2 → cP D cI cO A g cap N ρ2 H → va_S A s.heap H locs → lv_has ls 5 [(4, .ref (g 8 (nI i).toNatClampNeg)), (3, .int (nI i)), (0, .ref (g 0 0)), (1, .ref (g 6 sailing.toNatClampNeg)), (2, .int why)] → W p l e R s m args below meth c H locs cells slots Q (F0 m 60 ls []) := by
        intro ρ2 H locs ls e_ρ2 hK2 hP hS hl
        subst e_ρ2
        refine lv_iinc (v := nI (i + 1)) (lv' := [(3, .int (nI (i + 1))), (4, .ref (g 8 (nI i).toNatClampNeg)), (0, .ref (g 0 0)), (1, .ref (g 6 sailing.toNatClampNeg)), (2, .int why)]) hx hb dX5_cancel_60 hl (k := 1) rfl (by first | rfl | exact nI_1 _) (by decide) rfl (fun ls hl => ?_)
        refine lv_goto (tgt := 20) hx hb dX5_cancel_63 (by decide) ?_
        exact ih (i + 1) (if (q_X1_waitsFor τ (nI i) sailing) = 0 then τ else (s_X5_leaveBehind τ (nI i) (5 : Int32))) H locs ls (by omega) (by omega) hfin hK2 hP hS (lv_sub hl [0, 2, 3, 4] rfl)
      refine lv_if_eq (tgt := 60) hx hb dX5_cancel_50 (by decide) (fun c_2 => ?_) (fun c_2 => ?_)
      · exact J_2 τ H locs ls (if_pos c_2).symm hKτ hP hS (lv_sub hl [0, 1, 2, 3, 4] rfl)
      refine lv_aload_n hx hb dX5_cancel_53 rfl (lv_at hl 2 rfl) ?_
      refine lv_aload hx hb dX5_cancel_54 (lv_at hl 0 rfl) ?_
      refine lv_iconst (v := 5) hx hb dX5_cancel_56 (by decide) ?_
      refine kcV_v E hml hP hS (kr_0 E.2.2.2 hP ⟨by decide, by omega, fun z => absurd z (by decide)⟩) (c_X5_leaveBehind l τ (nI i) (5 : Int32) hIτ (vp_in_nI (n := i) (by omega) (by omega))) (cwV 2 hts gX5_cancel_X5_leaveBehind rfl rfl rfl (by decide +kernel) ⟨Nat.le_trans (Nat.le_of_ble_eq_true rfl) hR.1, Nat.le_trans (Nat.le_of_ble_eq_true rfl) hR.2⟩) rfl hl.1 rfl (Nat.le_of_ble_eq_true rfl) dX5_cancel_57 hf (fun H locs hP hS => ?_)
      exact J_2 (s_X5_leaveBehind τ (nI i) (5 : Int32)) H locs ls (if_neg c_2).symm (KI_s_X5_leaveBehind hIτ (vp_in_nI (n := i) (by omega) (by omega))) hP hS (lv_sub hl [0, 1, 2, 3, 4] rfl)
  exact L_3 101 0 (s_X2_tellCancelled (st (st σ 22 sailing.toNatClampNeg (3 : Int32)) 29 sailing.toNatClampNeg why) (σ 25 sailing.toNatClampNeg) why) H locs ls (by omega) (Nat.zero_le _) rfl (KI_s_X2_tellCancelled (KI_o (KI_o hI (by decide)) (by decide))) hP hS (lv_sub hl [0, 1, 2, 3] rfl)
set_option maxHeartbeats 4000000 in
set_option maxRecDepth 100000 in
theorem c_X5_cancel (l : Launch) {D : va_G} {A : Nat → Prop} {cI cO : ClassId} {g : Gh} {cap N : Nat → Nat} (σ : St) (sailing : Int32) (why : Int32) (hI : KI cap N σ) (h_sailing : vp_in sailing (N 6)) : Met l yX5_cancel wsX5_cancel ({ frames := 5, cells := 0, slots := 0, locals := 111 }) (va_Pc [.ref (g 0 0), .ref (g 6 sailing.toNatClampNeg), .int why] (cU D cI cO A g cap N σ)) (va_Qv (fun (_ : Unit) => True) (fun _ t => cU D cI cO A g cap N (s_X5_cancel σ sailing why) t) A) 0 0 A := by
  refine Met.ofW (cc := cX5_cancel) (maxL := 5) (ret := none) (by decide) rfl ?_
  intro p e s m args below meth c s₁ B hml hv
  obtain ⟨rfl, hP, hK⟩ := hv
  have E : kE p c cX5_cancel s m ([.ref (g 0 0), .ref (g 6 sailing.toNatClampNeg), .int why] : List Value).toArray wsX5_cancel RX5 D cI cO := ⟨⟨B.exec, B.bytes⟩, atoms_spec (ws := wsX5_cancel) B.pre, findClass_of_methodNamed B.named, hK⟩
  have hr := B.returns
  have hlocks := B.notSynchronized
  have hl := lv_entry ([.ref (g 0 0), .ref (g 6 sailing.toNatClampNeg), .int why]) (n := 5) (Nat.le_of_ble_eq_true rfl)
  rw [lg_entry_eq]
  generalize (lg_sl ([.ref (g 0 0), .ref (g 6 sailing.toNatClampNeg), .int why]) ++ List.replicate (5 - (lg_sl ([.ref (g 0 0), .ref (g 6 sailing.toNatClampNeg), .int why])).length) Slot.unset).toArray = ls at hl ⊢
  refine w_X5_cancel σ sailing why hI h_sailing E hml ⟨Nat.le_of_ble_eq_true rfl, Nat.le_of_ble_eq_true rfl⟩ ⟨Nat.zero_le _, Nat.zero_le _⟩ hP va_S.rf hl (fun pc H1 locs1 ls1 hd hP1 hS1 => ?_)
  exact W.vret B.exec B.bytes hr (fun t ht hW => ⟨⟨(), rfl, trivial, by rw [ht]; exact hP1, va_K.moved hW.alike hK⟩, hS1.F ht⟩) hS1.2.2 hd
theorem KI_lf_X5_cancel_20 {cap N : Nat → Nat} {σ : St} {sailing why : Int32} : ∀ (n i : Nat) (τ : St), i + n ≤ 101 → KI cap N τ → KI cap N (lf_X5_cancel_20 σ sailing why n i τ) := by
  intro n
  induction n with
  | zero => intro i τ _ h; exact h
  | succ n ih =>
    intro i τ hi h
    show KI cap N (if (τ 54 3) ≤ (nI i) then τ else _)
    by_cases hc : (τ 54 3) ≤ (nI i)
    · rw [if_pos hc]; exact h
    · rw [if_neg hc]
      have h8 := h.1.2.2.2.2.1
      have hlt := m_lt h.2.1.2.2.2 hc (by omega) (by omega)
      have hk : vp_in (nI i) (N 8) := vp_in_nI hlt (by omega)
      refine ih _ _ (by omega) ?_
      repeat (first | with_reducible exact h | with_reducible exact KI_s_X5_leaveBehind h hk | with_reducible refine KI_if (fun _ => ?_) (fun _ => ?_))
theorem KI_s_X5_cancel {cap N : Nat → Nat} {σ : St} {sailing why : Int32} (hI : KI cap N σ) (h_sailing : vp_in sailing (N 6)) : KI cap N (s_X5_cancel σ sailing why) := by
  unfold s_X5_cancel
  refine KI_lf_X5_cancel_20 _ _ _ (by omega) (KI_s_X2_tellCancelled (KI_o (KI_o hI (by decide)) (by decide)))
