/-! a pass that throws; and what a wrapper's answer means for the reference's -/
set_option maxHeartbeats 4000000 in
set_option maxRecDepth 100000 in
theorem c_X5_passB (l : Launch) (hst : l.stackTraces = false) {D : va_G} {A : Nat → Prop} {cI cO : ClassId} {aE : Nat} {g : Gh} {N : Nat → Nat} (σ : St) (minutes : Int32) (hbad : ¬ (¬ minutes < (1 : Int32) ∧ minutes ≤ (1500 : Int32))) : vx_Met l yX5_pass wsX5_pass ({ frames := 10, cells := 1, slots := 6, locals := 285 }) (va_Pc [.ref (g 0 0), .int minutes] (cGX D cI cO A aE g N σ)) (va_Qi (fun r (_ : Unit) => r = q_X5_pass σ minutes ∧ (¬ minutes < (1 : Int32) ∧ minutes ≤ (1500 : Int32))) (fun _ t => cGU D cI cO A aE g N (s_X5_pass σ minutes) t) A) (vx_X (fun (_ : Unit) => ¬ (¬ minutes < (1 : Int32) ∧ minutes ≤ (1500 : Int32))) (fun E _ t => E = "java/lang/IllegalArgumentException" ∧ cGU D cI cO A aE g N σ t) A) 1 6 A := by
  refine vx_ofW (cc := cX5_pass) (maxL := 4) (ret := (some .int)) (by decide) rfl ?_
  intro p e s m args below meth c s₁ B hml htab hv
  obtain ⟨rfl, ⟨⟨hP, hK⟩, hY⟩, hX⟩ := hv
  have E : kE p c cX5_pass s m ([.ref (g 0 0), .int minutes] : List Value).toArray wsX5_pass RX5 D cI cO := ⟨⟨B.exec, B.bytes⟩, atoms_spec (ws := wsX5_pass) B.pre, findClass_of_methodNamed B.named, hK⟩
  have hx := E.1.1
  have hb := E.1.2
  have hts := E.2.1
  have hr := B.returns
  have hlocks := B.notSynchronized
  have hS : va_S A s.heap s.heap [] := va_S.rf
  have hR : 10 ≤ ((headSpec wsX5_pass ({ frames := 10, cells := 1, slots := 6, locals := 285 })).room).frames ∧ 285 ≤ ((headSpec wsX5_pass ({ frames := 10, cells := 1, slots := 6, locals := 285 })).room).locals := ⟨Nat.le_of_ble_eq_true rfl, Nat.le_of_ble_eq_true rfl⟩
  have hfm : 1 ≤ ((headSpec wsX5_pass ({ frames := 10, cells := 1, slots := 6, locals := 285 })).room).cells ∧ 6 ≤ ((headSpec wsX5_pass ({ frames := 10, cells := 1, slots := 6, locals := 285 })).room).slots := ⟨Nat.le_refl _, Nat.le_refl _⟩
  have hl := lv_entry ([.ref (g 0 0), .int minutes]) (n := 4) (Nat.le_of_ble_eq_true rfl)
  rw [lg_entry_eq]
  generalize (lg_sl ([.ref (g 0 0), .int minutes]) ++ List.replicate (4 - (lg_sl ([.ref (g 0 0), .int minutes])).length) Slot.unset).toArray = ls at hl ⊢
  generalize (headSpec wsX5_pass ({ frames := 10, cells := 1, slots := 6, locals := 285 })).room = R at hR hfm ⊢
  obtain ⟨ga, cap, hG, hI, hP⟩ := hP
  refine lv_iload_n hx hb dX5_pass_0 rfl (lv_at hl 1 rfl) ?_
  refine lv_iconst (v := 1) hx hb dX5_pass_1 (by decide) ?_
  refine lv_sipush (v := 1500) hx hb dX5_pass_2 (by decide) ?_
  refine kxS (g := gw g ga) E hml hX hP hS (c_X5_needWithin l hst σ minutes (1 : Int32) (1500 : Int32)) (va_cwS 3 hts gX5_pass_X5_needWithin rfl rfl rfl (by decide +kernel) ⟨Nat.le_trans (Nat.le_of_ble_eq_true rfl) hR.1, Nat.le_trans (Nat.le_of_ble_eq_true rfl) hR.2⟩) rfl hl.1 rfl (Nat.le_of_ble_eq_true rfl) dX5_pass_5 ⟨by omega, by omega⟩ (fun c1 => ?_) (fun c1 => ?_)
  · intro q9 ce H locs hP hS hce hcv hcl
    exact vx_out (fun x hx => (htab x hx).elim) hlocks hce hcv hcl (fun t9 ht9 hW9 => ⟨(), c1, ⟨rfl, by rw [ht9]; exact ⟨ga, cap, hG, hI, hP⟩, va_K.moved hW9 hK⟩, hS.F ht9⟩) hS.2.2 (by omega) (by omega)
  intro H locs hP hS
  exact absurd c1 hbad
set_option maxHeartbeats 1000000 in
theorem u_passB (l : Launch) (hst : l.stackTraces = false) {D : va_G} {A : Nat → Prop} {cI cO : ClassId} {aE : Nat} {g : Gh} {N : Nat → Nat} (σ : St) (minutes : Int32) (hbad : ¬ (¬ minutes < (1 : Int32) ∧ minutes ≤ (1500 : Int32))) : vx_Met l yX5_pass wsX5_pass ({ frames := 10, cells := 1, slots := 6, locals := 285 }) (va_Pc [.ref (g 0 0), .int minutes] (cGX D cI cO A aE g N σ)) (va_Qi (fun r (u : Gh × (Nat → Nat) × St) => r = q_X5_pass σ minutes ∧ t_pass minutes = 0 ∧ P2 g N N (s_X5_pass σ minutes) u) (fun u t => cGU D cI cO A aE u.1 u.2.1 u.2.2 t) A) (vx_X (fun (_ : Unit) => ¬ t_pass minutes = 0) (fun E _ t => E = exN (t_pass minutes) ∧ cGU D cI cO A aE g N (σ) t) A) 1 6 A :=
  vx_ex (X := Unit) (K := fun _ => True) (P := fun _ => va_Pc [.ref (g 0 0), .int minutes] (cGX D cI cO A aE g N σ)) (Q := fun _ => va_Qi (fun r (_ : Unit) => r = q_X5_pass σ minutes ∧ (¬ minutes < (1 : Int32) ∧ minutes ≤ (1500 : Int32))) (fun _ t => cGU D cI cO A aE g N (s_X5_pass σ minutes) t) A) (XC := fun _ => vx_X (fun (_ : Unit) => ¬ (¬ minutes < (1 : Int32) ∧ minutes ≤ (1500 : Int32))) (fun E _ t => E = "java/lang/IllegalArgumentException" ∧ cGU D cI cO A aE g N σ t) A)
    (fun _ _ => c_X5_passB l hst σ minutes hbad) (fun a s hp => ⟨(), trivial, hp⟩)
    (fun x k a s o t hq => by
      obtain ⟨⟨r, u, e1, ⟨e2, e3⟩, hB⟩, hF⟩ := hq
      exact ⟨⟨r, (g, N, s_X5_pass σ minutes), e1, ⟨e2, if_pos e3, fun _ _ _ => rfl, rfl, rfl⟩, hB⟩, hF⟩)
    (fun x k E s t hx => by
      obtain ⟨u, e1, ⟨e2, hB⟩, hF⟩ := hx
      have ht : t_pass minutes = 1 := if_neg e1
      exact ⟨(), by rw [ht]; decide, ⟨by rw [ht]; exact e2, hB⟩, hF⟩)
set_option maxHeartbeats 4000000 in
set_option maxRecDepth 100000 in
theorem x_passB (l : Launch) (hst : l.stackTraces = false) {D : va_G} {A : Nat → Prop} {cI cO cJ : ClassId} {aE o : Nat} {g : Gh} {N : Nat → Nat} (σ : St) (f : Nat → Int64) (minutes : Int32) (hbad : ¬ (¬ minutes < (1 : Int32) ∧ minutes ≤ (1500 : Int32))) (hAo : ¬ A o) : vx_Met l yL_pass wsL_pass ({ frames := 11, cells := 1, slots := 6, locals := 308 }) (va_Pc [.ref (g 0 0), .int minutes, .ref o] (wW D cI cO cJ A aE g N σ o f)) (va_Qi (WP (t_pass minutes) (t_pass minutes) (q_X5_pass σ minutes).toInt64 g N N (s_X5_pass σ minutes) (σ)) (wB D cI cO cJ A aE o) (fun q => A q ∨ q = o)) (fun _ _ _ => False) 1 6 (fun q => A q ∨ q = o) := by
  refine vx_ofWH (cc := cL_pass) (maxL := 4) (ret := (some .int)) (hh := [(0, 9, 12, 13)]) (by decide) rfl ?_
  intro p e s m args below meth c s₁ B hml hv
  obtain ⟨rfl, ⟨⟨⟨⟨ga, cap, hG, hI, hP⟩, hK⟩, hY⟩, hX⟩, hO, hKJ, hNc⟩ := hv
  have E : kE p c cL_pass s m ([.ref (g 0 0), .int minutes, .ref o] : List Value).toArray wsL_pass RL D cI cO := ⟨⟨B.exec, B.bytes⟩, atoms_spec (ws := wsL_pass) B.pre, findClass_of_methodNamed B.named, hK⟩
  have hx := E.1.1
  have hb := E.1.2
  have hts := E.2.1
  have hr := B.returns
  have hlocks := B.notSynchronized
  have htab := vx_table (x := yL_pass) (hh := [(0, 9, 12, 13)]) B (hts (.codeWith yL_pass cL_pass 4 (some .int) [(0, 9, 12, 13)]) List.mem_cons_self)
  obtain ⟨n0, n4, n5, n6, n8, n7, n1, n2, n3⟩ := id hI.1
  have hS : va_S (fun q => A q ∨ q = o) s.heap s.heap [] := va_S.rf
  have hR : 11 ≤ ((headSpec wsL_pass ({ frames := 11, cells := 1, slots := 6, locals := 308 })).room).frames ∧ 308 ≤ ((headSpec wsL_pass ({ frames := 11, cells := 1, slots := 6, locals := 308 })).room).locals := ⟨Nat.le_refl _, Nat.le_refl _⟩
  have hfm : 0 + 1 ≤ ((headSpec wsL_pass ({ frames := 11, cells := 1, slots := 6, locals := 308 })).room).cells ∧ 0 + 6 ≤ ((headSpec wsL_pass ({ frames := 11, cells := 1, slots := 6, locals := 308 })).room).slots := ⟨Nat.le_of_eq (Nat.zero_add _), Nat.le_of_eq (Nat.zero_add _)⟩
  have hl := lv_entry ([.ref (g 0 0), .int minutes, .ref o]) (n := 4) (Nat.le_of_ble_eq_true rfl)
  rw [lg_entry_eq]
  generalize (lg_sl ([.ref (g 0 0), .int minutes, .ref o]) ++ List.replicate (4 - (lg_sl ([.ref (g 0 0), .int minutes, .ref o])).length) Slot.unset).toArray = ls at hl ⊢
  generalize (headSpec wsL_pass ({ frames := 11, cells := 1, slots := 6, locals := 308 })).room = R at hR hfm ⊢
  refine lv_aload_n hx hb dL_pass_0 rfl (lv_at hl 2 rfl) ?_
  refine lv_iconst (v := 0) hx hb dL_pass_1 (by decide) ?_
  refine lv_aload_n hx hb dL_pass_2 rfl (lv_at hl 0 rfl) ?_
  refine lv_iload_n hx hb dL_pass_3 rfl (lv_at hl 1 rfl) ?_
  refine vx_calli (vx_runV (As := [.int minutes]) (rest := [.int 0, .ref o]) ⟨E.1.1, E.1.2, hml, E.2.2.1, E.2.1⟩ (u_passB l hst (D := D) (A := A) (cI := cI) (cO := cO) (aE := aE) (g := g) (N := N) σ minutes hbad) (cwV 1 hts gL_pass_X5_pass rfl rfl rfl (by decide +kernel) ⟨Nat.le_trans (Nat.le_of_ble_eq_true rfl) hR.1, Nat.le_trans (Nat.le_of_ble_eq_true rfl) hR.2⟩) ⟨gxBl, kr_0 (g := gw g ga) E.2.2.2 hP ⟨by decide, by omega, fun z => absurd z (by decide)⟩, fun U hU hW => ⟨rfl, ⟨⟨⟨by rw [hU]; exact ⟨ga, cap, hG, hI, hP⟩, va_K.moved hW.alike hK⟩, cY_at hY va_S.rf hU hW⟩, cX_at hX va_S.rf hU hW⟩⟩⟩ rfl rfl hl.1 rfl (lv_room (Nat.le_of_ble_eq_true rfl)) dL_pass_4 hfm) hS (fun q _ h => Or.inl h) (fun q h => Or.inl h) (fun q _ h => Or.inl h) (fun E9 ce q9 u t9 H1 locs1 ht hvm hpx hB hz hk hS hce hcv hcl => ?_) (fun r u t9 H1 locs1 ht hvm hw hB hz hk hS => ?_)
  · obtain ⟨hE, hB1⟩ := hB
    have hB2 := hB1.1
    rw [ht] at hB2
    have hO1 : H1[o]? = some (vp_cell cJ (1, .inr (.inl f))) := (hk o (Array.getElem?_eq_some_iff.mp hO).1 hAo).trans hO
    rcases tv_pass σ minutes with h0 | h0
    · exact absurd h0 hpx
    · have hE2 : E9 = "java/lang/IllegalArgumentException" := by rw [hE, h0]; rfl
      subst hE2
      refine vx_catch (name := "java/lang/IllegalArgumentException") E.2.2.1 [] ⟨0, 9, 12, 13⟩ [] (htab.trans rfl) (fun z hz => absurd hz List.not_mem_nil) rfl (by decide) (hts (.classLink RL 13 "java/lang/IllegalArgumentException") (by decide +kernel)) ((hX.2.2.2.1 (.castable "java/lang/IllegalArgumentException" "java/lang/IllegalArgumentException") (by decide)).use rfl) hce hcv hcl ?_
      show W p l e R s m _ below meth c H1 locs1 _ _ _ (F0 m 12 ls [.ref q9])
      refine lv_astore_n (lv' := [(3, .ref q9), (0, .ref (g 0 0)), (1, .int minutes), (2, .ref o)]) hx hb dL_pass_12 rfl hl (by decide) rfl (fun ls hl => ?_)
      refine lv_iconst (v := 1) hx hb dL_pass_13 (by decide) ?_
      exact W.widen (k := 1) (n := 6) (Nat.le_of_eq (Nat.zero_add _)) (Nat.le_of_eq (Nat.zero_add _)) (vx_ret (W.iret (v := 1) B.exec B.bytes hr (fun t ht hW => ⟨⟨1, ((g, N, σ), f), rfl, Or.inr ⟨hpx, by first | exact h0.symm | (rw [h0]; rfl), rfl⟩, ⟨by rw [ht]; exact hB2, va_K.moved hW.alike hK⟩, by rw [ht]; exact hO1⟩, hS.F ht⟩) hS.2.2 dL_pass_14))
  · obtain ⟨hr1, ht0, hP2⟩ := hw
    have hB2 := hB.1
    rw [ht] at hB2
    have hO1 : H1[o]? = some (vp_cell cJ (1, .inr (.inl f))) := (hk o (Array.getElem?_eq_some_iff.mp hO).1 hAo).trans hO
    refine lv_i2l (v := r.toInt64) hx hb dL_pass_7 rfl ?_
    refine k_last hx hb hKJ hO1 hS (Or.inr rfl) dL_pass_8 (fun H2 locs2 hO2 hz2 oq2 hS => ?_)
    have hB3 := cG_kept hB2 (fun q _ hA => oq2 q (fun z => hAo (by rw [← z]; exact hA)))
    refine lv_goto (tgt := 15) hx hb dL_pass_9 (by decide) ?_
    refine lv_iconst (v := 0) hx hb dL_pass_15 (by decide) ?_
    exact W.widen (k := 1) (n := 6) (Nat.le_of_eq (Nat.zero_add _)) (Nat.le_of_eq (Nat.zero_add _)) (vx_ret (W.iret (v := 0) B.exec B.bytes hr (fun t ht hW => ⟨⟨0, (u, vp_updL f 0 r.toInt64), rfl, Or.inl ⟨ht0, rfl, hP2, by rw [hr1]; rfl⟩, ⟨by rw [ht]; exact hB3, va_K.moved hW.alike hK⟩, by rw [ht]; exact hO2⟩, hS.F ht⟩) hS.2.2 dL_pass_16))
theorem KPz_of {N : Nat → Nat} {t : Nat} {c m : St} (h : RF N t c m) : KPz N c := fun n hn h0 => by
  obtain ⟨⟨L, hL⟩, -⟩ := h.1.2.2.1 n hn
  have hn0 := RB_none h.1 hn h0
  have hz : L = [] := by
    cases L with
    | nil => rfl
    | cons b r => exact absurd ((hL.1 b).mp List.mem_cons_self) (hn0 b)
  subst hz
  exact ⟨hL.2.2.1.1, hL.2.2.1.2.1, hL.2.2.1.2.2.2⟩
theorem kA_0 {t : Int32} (h : kA t = 0) : t = 0 := by
  unfold kA at h
  by_cases h0 : t = 0
  · exact h0
  · rw [if_neg h0] at h
    by_cases h1 : t = 3
    · rw [if_pos h1] at h; exact absurd h (by decide)
    · rw [if_neg h1] at h
      by_cases h2 : t = 1
      · rw [if_pos h2] at h; exact absurd h (by decide)
      · rw [if_neg h2] at h; exact absurd h (by decide)
theorem kB_0 {t : Int32} (h : kB t = 0) : t = 0 := by
  unfold kB at h
  by_cases h0 : t = 0
  · exact h0
  · rw [if_neg h0] at h
    by_cases h1 : t = 3
    · rw [if_pos h1] at h; exact absurd h (by decide)
    · rw [if_neg h1] at h; exact absurd h (by decide)
/-- what the law's case needs of a wrapper's and the reference's answers -/
def lK (g : Gh) (N : Nat → Nat) (σ : St) (t : Nat) (μ' : St) (k : Int32) (w : Int64) (u : (Gh × (Nat → Nat) × St) × (Nat → Int64)) : Prop := μ' 0 0 = k ∧ (k = 0 → u.2 0 = w) ∧ (∃ t' : Nat, t' ≤ t + 1500 ∧ lR u.1.2.1 t' u.1.2.2 μ') ∧ u.1.1 0 0 = g 0 0 ∧ cn8 N σ ≤ cn8 u.1.2.1 u.1.2.2
theorem lK_of {g : Gh} {N N' : Nat → Nat} {σ σ' σx : St} {t : Nat} {μ' : St} {tt kc k : Int32} {v w : Int64} {u : (Gh × (Nat → Nat) × St) × (Nat → Int64)} (hN : KN N) (h : WP tt kc v g N N' σ' σx k u) (hk0 : kc = 0 → tt = 0) (h1 : μ' 0 0 = (if tt = 0 then 0 else kc)) (h2 : tt = 0 → v = w) (h3 : tt = 0 → ∃ t' : Nat, t' ≤ t + 1500 ∧ lR N' t' σ' μ') (h4 : ¬ tt = 0 → lR N t σx μ') (h5 : tt = 0 → cn8 N σ ≤ cn8 N' σ') (h6 : cn8 N σ ≤ cn8 N σx) : lK g N σ t μ' k w u := by
  rcases h with ⟨h0, hk, ⟨hg, hn, hs⟩, hv⟩ | ⟨h0, hk, hu⟩
  · refine ⟨by rw [h1, if_pos h0, hk], fun _ => by rw [hv, h2 h0], ?_, hg 0 0 (by rw [hN.1]; decide), ?_⟩
    · rw [hn, hs]; exact h3 h0
    · rw [hn, hs]; exact h5 h0
  · refine ⟨by rw [h1, if_neg h0, hk], fun z => absurd (hk0 (hk.symm.trans z)) h0, ?_, ?_, ?_⟩
    · rw [hu]; exact ⟨t, Nat.le_add_right _ _, h4 h0⟩
    · rw [hu]
    · rw [hu]; exact h6
theorem kA_if (t : Int32) : kA t = (if t = 0 then 0 else kA t) := by
  by_cases h : t = 0
  · rw [if_pos h, h]; rfl
  · rw [if_neg h]
theorem kB_if (t : Int32) : kB t = (if t = 0 then 0 else kB t) := by
  by_cases h : t = 0
  · rw [if_pos h, h]; rfl
  · rw [if_neg h]
theorem kI_if (t : Int32) : t = (if t = 0 then 0 else t) := by
  by_cases h : t = 0
  · rw [if_pos h, h]
  · rw [if_neg h]
theorem cn8_Nn {N : Nat → Nat} {k : Nat} (hk : k ≠ 8) {a b : St} (h : a 35 = b 35) : cn8 N a = cn8 (Nn N k) b := by
  unfold cn8
  rw [h]
  have e : Nn N k 8 = N 8 := if_neg (fun z => hk z.symm)
  rw [e]
theorem cn8_8 {N : Nat → Nat} {a b : St} (h : ∀ n, n < N 8 → a 35 n = b 35 n) : cn8 N a ≤ cn8 (Nn N 8) b := by
  unfold cn8
  have e : Nn N 8 8 = N 8 + 1 := if_pos rfl
  rw [e, List.range_succ, List.countP_append]
  refine Nat.le_trans (Nat.le_of_eq ?_) (Nat.le_add_right _ _)
  exact List.countP_congr (fun x hx => by rw [h x (List.mem_range.mp hx)])
theorem rel_35 {σ : St} {b o : Int32} : s_X5_relieve σ b o 35 = σ 35 := by
  have key : ∀ (n i : Nat) (x : Int32) (τ : St), (lf_X5_relieve_68 σ b o n i x τ).2 35 = τ 35 := by
    intro n
    induction n with
    | zero => intro i x τ; rfl
    | succ n ih =>
      intro i x τ
      simp only [lf_X5_relieve_68]
      split
      · rfl
      · rw [ih]
        split
        · split
          · exact st_nf _ _ _ (by decide)
          · rfl
        · rfl
  unfold s_X5_relieve
  split
  · split
    · split
      · rfl
      · exact key _ _ _ _
    · rfl
  · rfl
theorem swell_22 (σ : St) (p x : Int32) : s_X5_swell σ p x 22 = σ 22 := by
  unfold s_X5_swell
  repeat' split
  all_goals first | rfl | exact st_nf _ _ _ (by decide)
theorem swell_35 (σ : St) (p x : Int32) : s_X5_swell σ p x 35 = σ 35 := by
  unfold s_X5_swell
  repeat' split
  all_goals first | rfl | exact st_nf _ _ _ (by decide)
theorem rate_22 (σ : St) (p x : Int32) : s_X5_rate σ p x 22 = σ 22 := by
  unfold s_X5_rate
  repeat' split
  all_goals first | rfl | exact st_nf _ _ _ (by decide)
theorem rate_35 (σ : St) (p x : Int32) : s_X5_rate σ p x 35 = σ 35 := by
  unfold s_X5_rate
  repeat' split
  all_goals first | rfl | exact st_nf _ _ _ (by decide)
theorem breakDown_22 (σ : St) (p : Int32) : s_X5_breakDown σ p 22 = σ 22 := by
  unfold s_X5_breakDown
  repeat' split
  all_goals first | rfl | exact st_nf _ _ _ (by decide)
theorem breakDown_35 (σ : St) (p : Int32) : s_X5_breakDown σ p 35 = σ 35 := by
  unfold s_X5_breakDown
  repeat' split
  all_goals first | rfl | exact st_nf _ _ _ (by decide)
theorem MI_plan {σ : St} (h : MI σ) (s x o : Int32) : MI (s_plan σ s x o) := by
  unfold s_plan
  repeat' first | exact MI_rf h | refine MI_ite (fun _ => ?_) (fun _ => ?_)
theorem MI_against {σ : St} (h : MI σ) (p : Int32) : MI (s_against σ p) := by
  unfold s_against
  repeat' first | exact MI_rf h | refine MI_ite (fun _ => ?_) (fun _ => ?_)
theorem MI_sailingOf {σ : St} (h : MI σ) (p x : Int32) : MI (s_sailingOf σ p x) := by
  unfold s_sailingOf
  repeat' first | exact MI_rf h | refine MI_ite (fun _ => ?_) (fun _ => ?_)
theorem MI_bookingOf {σ : St} (h : MI σ) (p x : Int32) : MI (s_bookingOf σ p x) := by
  unfold s_bookingOf
  repeat' first | exact MI_rf h | refine MI_ite (fun _ => ?_) (fun _ => ?_)
theorem MI_tide {σ : St} (h : MI σ) (p x : Int32) : MI (s_tide σ p x) := by
  unfold s_tide
  repeat' first | exact MI_rf h | refine MI_ite (fun _ => ?_) (fun _ => ?_)
theorem MI_boatOf {σ : St} (h : MI σ) (p x : Int32) : MI (s_boatOf σ p x) := by
  unfold s_boatOf
  repeat' first | exact MI_rf h | refine MI_ite (fun _ => ?_) (fun _ => ?_)
theorem MI_gap {σ : St} (h : MI σ) (p x : Int32) : MI (s_gap σ p x) := by
  unfold s_gap
  repeat' first | exact MI_rf h | refine MI_ite (fun _ => ?_) (fun _ => ?_)
theorem MI_performance {σ : St} (h : MI σ) : MI (s_performance σ) := MI_o h (by decide)
theorem MI_penalty {σ : St} (h : MI σ) : MI (s_penalty σ) := MI_o h (by decide)
set_option maxRecDepth 20000 in
theorem key_pier {g : Gh} {N : Nat → Nat} {σ μ : St} {t : Nat} (depth range phase lit : Int32) (hl : isB lit) (hN : KN N) (hR : lR N t σ μ) {k : Int32} {u : (Gh × (Nat → Nat) × St) × (Nat → Int64)} (h : WP (t_X5_pier σ depth range phase lit) (t_X5_pier σ depth range phase lit) (nI (N 4)).toInt64 g N (Nn N 4) (s_X5_pier N σ depth range phase lit) (σ) k u) : lK g N σ t (s_pier μ depth range phase lit) k (q_pier μ depth range phase lit).toInt64 u := by
  obtain ⟨hF, hM, hV⟩ := hR
  obtain ⟨b1, b2, b3⟩ := both_pier hF depth range phase lit hl
  refine lK_of hN h id (b1.trans (kI_if _)) (fun z => by rw [(b2 z).1]) (fun z => ⟨t, Nat.le_add_right _ _, (b2 z).2, MI_pier hM depth range phase lit, VS_pier hV depth range phase lit⟩) (fun z => ⟨b3 z, MI_pier hM depth range phase lit, hV⟩) (fun _ => Nat.le_of_eq (cn8_Nn (by decide) (by unfold s_X5_pier m_X5_pier; repeat rw [st_nf _ _ _ (by decide)]))) (Nat.le_refl _)
set_option maxRecDepth 20000 in
theorem key_boat {g : Gh} {N : Nat → Nat} {σ μ : St} {t : Nat} (draught length weight trim swell piers home : Int32) (hN : KN N) (hR : lR N t σ μ) {k : Int32} {u : (Gh × (Nat → Nat) × St) × (Nat → Int64)} (h : WP (t_X5_boat σ draught length weight trim swell piers home) (kA (t_X5_boat σ draught length weight trim swell piers home)) (nI (N 5)).toInt64 g N (Nn N 5) (s_X5_boat N σ draught length weight trim swell piers home) (σ) k u) : lK g N σ t (s_boat μ draught length weight trim swell piers home) k (q_boat μ draught length weight trim swell piers home).toInt64 u := by
  obtain ⟨hF, hM, hV⟩ := hR
  obtain ⟨b1, b2, b3⟩ := both_boat hF draught length weight trim swell piers home
  refine lK_of hN h kA_0 (b1.trans (kA_if _)) (fun z => by rw [(b2 z).1]) (fun z => ⟨t, Nat.le_add_right _ _, (b2 z).2, MI_boat hM draught length weight trim swell piers home, VS_boat hV draught length weight trim swell piers home⟩) (fun z => ⟨b3 z, MI_boat hM draught length weight trim swell piers home, hV⟩) (fun _ => Nat.le_of_eq (cn8_Nn (by decide) (by unfold s_X5_boat m_X5_boat; repeat rw [st_nf _ _ _ (by decide)]))) (Nat.le_refl _)
set_option maxRecDepth 20000 in
theorem key_swell {g : Gh} {N : Nat → Nat} {σ μ : St} {t : Nat} (p x : Int32) (hN : KN N) (hR : lR N t σ μ) {k : Int32} {u : (Gh × (Nat → Nat) × St) × (Nat → Int64)} (h : WP (t_X5_swell σ p x) (kA (t_X5_swell σ p x)) (q_X5_swell σ p x).toInt64 g N N (s_X5_swell σ p x) (s_X5_swell σ p x) k u) : lK g N σ t (s_swell μ p x) k (q_swell μ p x).toInt64 u := by
  obtain ⟨hF, hM, hV⟩ := hR
  obtain ⟨b1, b2, b3⟩ := both_swell hF p x
  exact lK_of hN h kA_0 (b1.trans (kA_if _)) (fun z => by rw [b2 z]) (fun _ => ⟨t, Nat.le_add_right _ _, b3, MI_swell hM p x, VS_of hV (swell_22 σ p x)⟩) (fun _ => ⟨b3, MI_swell hM p x, VS_of hV (swell_22 σ p x)⟩) (fun _ => Nat.le_of_eq (cn8_eq (swell_35 σ p x).symm)) (Nat.le_of_eq (cn8_eq (swell_35 σ p x).symm))
set_option maxRecDepth 20000 in
theorem key_breakDown {g : Gh} {N : Nat → Nat} {σ μ : St} {t : Nat} (p : Int32) (hN : KN N) (hR : lR N t σ μ) {k : Int32} {u : (Gh × (Nat → Nat) × St) × (Nat → Int64)} (h : WP (t_X5_breakDown σ p) (kA (t_X5_breakDown σ p)) (if q_X5_breakDown σ p = 0 then (0 : Int64) else 1) g N N (s_X5_breakDown σ p) (s_X5_breakDown σ p) k u) : lK g N σ t (s_breakDown μ p) k (if q_breakDown μ p = 0 then (0 : Int64) else 1) u := by
  obtain ⟨hF, hM, hV⟩ := hR
  obtain ⟨b1, b2, b3⟩ := both_breakDown hF p
  exact lK_of hN h kA_0 (b1.trans (kA_if _)) (fun z => by rw [b2 z]) (fun _ => ⟨t, Nat.le_add_right _ _, b3, MI_breakDown hM p, VS_of hV (breakDown_22 σ p)⟩) (fun _ => ⟨b3, MI_breakDown hM p, VS_of hV (breakDown_22 σ p)⟩) (fun _ => Nat.le_of_eq (cn8_eq (breakDown_35 σ p).symm)) (Nat.le_of_eq (cn8_eq (breakDown_35 σ p).symm))
set_option maxRecDepth 20000 in
theorem key_relieve {g : Gh} {N : Nat → Nat} {σ μ : St} {t : Nat} (b o : Int32) (hN : KN N) (hR : lR N t σ μ) {k : Int32} {u : (Gh × (Nat → Nat) × St) × (Nat → Int64)} (h : WP (t_X5_relieve σ b o) (kA (t_X5_relieve σ b o)) (q_X5_relieve σ b o).toInt64 g N N (s_X5_relieve σ b o) (s_X5_relieve σ b o) k u) : lK g N σ t (s_relieve μ b o) k (q_relieve μ b o).toInt64 u := by
  obtain ⟨hF, hM, hV⟩ := hR
  obtain ⟨b1, b2, b3, b4⟩ := both_relieve hF b o
  exact lK_of hN h kA_0 (b1.trans (kA_if _)) (fun z => by rw [b2 z]) (fun _ => ⟨t, Nat.le_add_right _ _, b3, MI_relieve hM b o, VS_of hV b4⟩) (fun _ => ⟨b3, MI_relieve hM b o, VS_of hV b4⟩) (fun _ => Nat.le_of_eq (cn8_eq rel_35.symm)) (Nat.le_of_eq (cn8_eq rel_35.symm))
set_option maxRecDepth 20000 in
theorem key_sailing {g : Gh} {N : Nat → Nat} {σ μ : St} {t : Nat} (b f o a d l : Int32) (hl : isB l) (ht : t < 2 ^ 29) (hN : KN N) (hR : lR N t σ μ) {k : Int32} {u : (Gh × (Nat → Nat) × St) × (Nat → Int64)} (h : WP (t_X5_sailing σ b f o a d l) (kA (t_X5_sailing σ b f o a d l)) (nI (N 6)).toInt64 g N (Ns N) (s_X5_sailing N σ b f o a d l) (σ) k u) : lK g N σ t (s_sailing μ b f o a d l) k (q_sailing μ b f o a d l).toInt64 u := by
  obtain ⟨hF, hM, hV⟩ := hR
  obtain ⟨b1, b2, b3⟩ := both_sailing hN hF ht b f o a d l hl
  refine lK_of hN h kA_0 (b1.trans (kA_if _)) (fun z => by rw [(b2 z).1]) (fun z => ⟨t, Nat.le_add_right _ _, (b2 z).2, MI_sailing hM b f o a d l, VS_sailing hV b f o a d l⟩) (fun z => ⟨b3 z, MI_sailing hM b f o a d l, hV⟩) (fun _ => Nat.le_of_eq (by
    have e : σ 35 = s_X5_sailing N σ b f o a d l 35 := by unfold s_X5_sailing m_X5_sailing; repeat rw [st_nf _ _ _ (by decide)]
    unfold cn8
    rw [e]
    rfl)) (Nat.le_refl _)
set_option maxRecDepth 20000 in
theorem key_book {g : Gh} {N : Nat → Nat} {σ μ : St} {t : Nat} (s ki l w d ur o : Int32) (hu : isB ur) (ho : isB o) (hN : KN N) (hR : lR N t σ μ) {k : Int32} {u : (Gh × (Nat → Nat) × St) × (Nat → Int64)} (h : WP (t_X5_book σ s ki l w d ur o) (kA (t_X5_book σ s ki l w d ur o)) (nI (N 8)).toInt64 g N (Nn N 8) (s_X5_book N σ s ki l w d ur o) (σ) k u) : lK g N σ t (s_book μ s ki l w d ur o) k (q_book μ s ki l w d ur o).toInt64 u := by
  obtain ⟨hF, hM, hV⟩ := hR
  obtain ⟨b1, b2, b3⟩ := both_book hF s ki l w d ur o hu ho
  refine lK_of hN h kA_0 (b1.trans (kA_if _)) (fun z => by rw [(b2 z).1]) (fun z => ⟨t, Nat.le_add_right _ _, (b2 z).2, MI_book hM s ki l w d ur o, VS_book hV s ki l w d ur o⟩) (fun z => ⟨b3 z, MI_book hM s ki l w d ur o, hV⟩) (fun _ => cn8_8 (fun n hn => by
    unfold s_X5_book m_X5_book
    repeat first | rw [st_nf _ _ _ (by decide)] | rw [st_nj _ _ _ (by omega)])) (Nat.le_refl _)
set_option maxRecDepth 20000 in
theorem key_rate {g : Gh} {N : Nat → Nat} {σ μ : St} {t : Nat} (p x : Int32) (hN : KN N) (hR : lR N t σ μ) {k : Int32} {u : (Gh × (Nat → Nat) × St) × (Nat → Int64)} (h : WP (t_X5_rate σ p x) (kA (t_X5_rate σ p x)) (q_X5_rate σ p x).toInt64 g N N (s_X5_rate σ p x) (s_X5_rate σ p x) k u) : lK g N σ t (s_rate μ p x) k (q_rate μ p x).toInt64 u := by
  obtain ⟨hF, hM, hV⟩ := hR
  obtain ⟨b1, b2, b3⟩ := both_rate hF p x
  exact lK_of hN h kA_0 (b1.trans (kA_if _)) (fun z => by rw [b2 z]) (fun _ => ⟨t, Nat.le_add_right _ _, b3, MI_rate hM p x, VS_of hV (rate_22 σ p x)⟩) (fun _ => ⟨b3, MI_rate hM p x, VS_of hV (rate_22 σ p x)⟩) (fun _ => Nat.le_of_eq (cn8_eq (rate_35 σ p x).symm)) (Nat.le_of_eq (cn8_eq (rate_35 σ p x).symm))
set_option maxRecDepth 20000 in
theorem key_pass {g : Gh} {N : Nat → Nat} {σ μ : St} {t : Nat} (mi : Int32) (ht : t + 1500 < 2 ^ 30) (hN : KN N) (hR : lR N t σ μ) {k : Int32} {u : (Gh × (Nat → Nat) × St) × (Nat → Int64)} (h : WP (t_pass mi) (t_pass mi) (q_X5_pass σ mi).toInt64 g N N (s_X5_pass σ mi) (σ) k u) : lK g N σ t (s_pass μ mi) k (q_pass μ mi).toInt64 u := by
  obtain ⟨hF, hM, hV⟩ := hR
  obtain ⟨b1, b2, b3⟩ := both_pass hF ht mi
  have hcn : cn8 N σ ≤ cn8 N (s_X5_pass σ mi) := (PZ_lfP 1501 0 σ σ hF.1.2.1.2.2.2.2.1 hF.1.2.1.1.2.2.1 PZ_rf).1
  have hp : t_pass mi = 0 → (¬ mi < 1 ∧ mi ≤ 1500) := fun z => Classical.byContradiction fun y => by
    unfold t_pass at z; rw [if_neg y] at z; exact absurd z (by decide)
  have hq : ¬ t_pass mi = 0 → ¬ (¬ mi < 1 ∧ mi ≤ 1500) := fun z y => z (if_pos y)
  refine lK_of hN h id (b1.trans (kI_if _)) (fun z => by rw [(b2 (hp z)).1]) (fun z => ?_) (fun z => ⟨b3 (hq z), MI_pass hM mi, hV⟩) (fun _ => hcn) (Nat.le_refl _)
  obtain ⟨M, hM1, hM2⟩ := (b2 (hp z)).2
  exact ⟨t + M, by omega, hM2, MI_pass hM mi, VS_pass hV mi⟩
set_option maxRecDepth 20000 in
theorem key_tide {g : Gh} {N : Nat → Nat} {σ μ : St} {t : Nat} (p x : Int32) (hN : KN N) (hR : lR N t σ μ) {k : Int32} {u : (Gh × (Nat → Nat) × St) × (Nat → Int64)} (h : WP (t_X5_tide σ p x) (kA (t_X5_tide σ p x)) (q_X5_tide σ p x).toInt64 g N N (σ) (σ) k u) : lK g N σ t (s_tide μ p x) k (q_tide μ p x).toInt64 u := by
  obtain ⟨hF, hM, hV⟩ := hR
  obtain ⟨b1, b2, b3⟩ := both_tide hF p x
  exact lK_of hN h kA_0 (b1.trans (kA_if _)) (fun z => by rw [b2 z]) (fun _ => ⟨t, Nat.le_add_right _ _, b3, MI_tide hM p x, hV⟩) (fun _ => ⟨b3, MI_tide hM p x, hV⟩) (fun _ => Nat.le_refl _) (Nat.le_refl _)
set_option maxRecDepth 20000 in
theorem key_boatOf {g : Gh} {N : Nat → Nat} {σ μ : St} {t : Nat} (p x : Int32) (hN : KN N) (hR : lR N t σ μ) {k : Int32} {u : (Gh × (Nat → Nat) × St) × (Nat → Int64)} (h : WP (t_X5_boatOf σ p x) (kA (t_X5_boatOf σ p x)) (q_X5_boatOf σ p x).toInt64 g N N (σ) (σ) k u) : lK g N σ t (s_boatOf μ p x) k (q_boatOf μ p x).toInt64 u := by
  obtain ⟨hF, hM, hV⟩ := hR
  obtain ⟨b1, b2, b3⟩ := both_boatOf hF p x
  exact lK_of hN h kA_0 (b1.trans (kA_if _)) (fun z => by rw [b2 z]) (fun _ => ⟨t, Nat.le_add_right _ _, b3, MI_boatOf hM p x, hV⟩) (fun _ => ⟨b3, MI_boatOf hM p x, hV⟩) (fun _ => Nat.le_refl _) (Nat.le_refl _)
set_option maxRecDepth 20000 in
theorem key_sailingOf {g : Gh} {N : Nat → Nat} {σ μ : St} {t : Nat} (p x : Int32) (hN : KN N) (hR : lR N t σ μ) {k : Int32} {u : (Gh × (Nat → Nat) × St) × (Nat → Int64)} (h : WP (t_X5_sailingOf σ p x) (kA (t_X5_sailingOf σ p x)) (q_X5_sailingOf σ p x).toInt64 g N N (σ) (σ) k u) : lK g N σ t (s_sailingOf μ p x) k (q_sailingOf μ p x).toInt64 u := by
  obtain ⟨hF, hM, hV⟩ := hR
  obtain ⟨b1, b2, b3⟩ := both_sailingOf hF p x
  exact lK_of hN h kA_0 (b1.trans (kA_if _)) (fun z => by rw [b2 z]) (fun _ => ⟨t, Nat.le_add_right _ _, b3, MI_sailingOf hM p x, hV⟩) (fun _ => ⟨b3, MI_sailingOf hM p x, hV⟩) (fun _ => Nat.le_refl _) (Nat.le_refl _)
set_option maxRecDepth 20000 in
theorem key_against {g : Gh} {N : Nat → Nat} {σ μ : St} {t : Nat} (p : Int32) (hN : KN N) (hR : lR N t σ μ) {k : Int32} {u : (Gh × (Nat → Nat) × St) × (Nat → Int64)} (h : WP (t_X5_against σ p) (kB (t_X5_against σ p)) (q_X5_against σ p).toInt64 g N N (σ) (σ) k u) : lK g N σ t (s_against μ p) k (q_against μ p).toInt64 u := by
  obtain ⟨hF, hM, hV⟩ := hR
  obtain ⟨b1, b2, b3⟩ := both_against hF p
  exact lK_of hN h kB_0 (b1.trans (kB_if _)) (fun z => by rw [b2 z]) (fun _ => ⟨t, Nat.le_add_right _ _, b3, MI_against hM p, hV⟩) (fun _ => ⟨b3, MI_against hM p, hV⟩) (fun _ => Nat.le_refl _) (Nat.le_refl _)
set_option maxRecDepth 20000 in
theorem key_bookingOf {g : Gh} {N : Nat → Nat} {σ μ : St} {t : Nat} (p x : Int32) (hN : KN N) (hR : lR N t σ μ) {k : Int32} {u : (Gh × (Nat → Nat) × St) × (Nat → Int64)} (h : WP (t_X5_bookingOf σ p x) (kA (t_X5_bookingOf σ p x)) (q_X5_bookingOf σ p x).toInt64 g N N (σ) (σ) k u) : lK g N σ t (s_bookingOf μ p x) k (q_bookingOf μ p x).toInt64 u := by
  obtain ⟨hF, hM, hV⟩ := hR
  obtain ⟨b1, b2, b3⟩ := both_bookingOf hF hM p x
  exact lK_of hN h kA_0 (b1.trans (kA_if _)) (fun z => by rw [b2 z]) (fun _ => ⟨t, Nat.le_add_right _ _, b3, MI_bookingOf hM p x, hV⟩) (fun _ => ⟨b3, MI_bookingOf hM p x, hV⟩) (fun _ => Nat.le_refl _) (Nat.le_refl _)
set_option maxRecDepth 20000 in
theorem key_plan {g : Gh} {N : Nat → Nat} {σ μ : St} {t : Nat} (s x o : Int32) (hN : KN N) (hR : lR N t σ μ) {k : Int32} {u : (Gh × (Nat → Nat) × St) × (Nat → Int64)} (h : WP (t_X5_plan σ s x o) (kA (t_X5_plan σ s x o)) (q_X5_plan σ s x o).toInt64 g N N (σ) (σ) k u) : lK g N σ t (s_plan μ s x o) k (q_plan μ s x o).toInt64 u := by
  obtain ⟨hF, hM, hV⟩ := hR
  obtain ⟨b1, b2, b3⟩ := both_plan hF hM s x o
  exact lK_of hN h kA_0 (b1.trans (kA_if _)) (fun z => by rw [b2 z]) (fun _ => ⟨t, Nat.le_add_right _ _, b3, MI_plan hM s x o, hV⟩) (fun _ => ⟨b3, MI_plan hM s x o, hV⟩) (fun _ => Nat.le_refl _) (Nat.le_refl _)
set_option maxRecDepth 20000 in
theorem key_gap {g : Gh} {N : Nat → Nat} {σ μ : St} {t : Nat} (p x : Int32) (hN : KN N) (hR : lR N t σ μ) {k : Int32} {u : (Gh × (Nat → Nat) × St) × (Nat → Int64)} (h : WP (t_X5_gap σ p x) (kA (t_X5_gap σ p x)) (q_X5_gap σ p x).toInt64 g N N (σ) (σ) k u) : lK g N σ t (s_gap μ p x) k (q_gap μ p x).toInt64 u := by
  obtain ⟨hF, hM, hV⟩ := hR
  obtain ⟨b1, b2, b3⟩ := both_gap hF p x
  exact lK_of hN h kA_0 (b1.trans (kA_if _)) (fun z => by rw [b2 z]) (fun _ => ⟨t, Nat.le_add_right _ _, b3, MI_gap hM p x, hV⟩) (fun _ => ⟨b3, MI_gap hM p x, hV⟩) (fun _ => Nat.le_refl _) (Nat.le_refl _)
