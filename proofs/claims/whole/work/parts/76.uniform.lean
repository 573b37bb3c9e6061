/-! the class's public methods, all in one form over the hidden world -/
theorem vx_ex {l : Launch} {y : MethodName} {ws : List Cond} {rm : Room} {X : Type} {K : X → Prop} {P : X → Array Value → State → Prop} {P' : Array Value → State → Prop} {Q : X → Array Value → State → Outcome → State → Prop} {Q' : Array Value → State → Outcome → State → Prop} {XC : X → String → State → State → Prop} {XC' : String → State → State → Prop} {mc ms : Nat} {A : Nat → Prop}
    (h : ∀ x, K x → vx_Met l y ws rm (P x) (Q x) (XC x) mc ms A) (hP : ∀ a s, P' a s → ∃ x, K x ∧ P x a s) (hQ : ∀ x, K x → ∀ a s o t, Q x a s o t → Q' a s o t) (hX : ∀ x, K x → ∀ E s t, XC x E s t → XC' E s t) : vx_Met l y ws rm P' Q' XC' mc ms A := fun p e ha hc hk s m args below hf hap hp hK => by
  obtain ⟨x, kx, hx⟩ := hP _ _ hp
  obtain ⟨n, o, h1, h2, h3, h4⟩ := h x kx p e ha hc hk s m args below hf hap hx hK
  refine ⟨n, o, h1, h2, h3, ?_⟩
  rcases h4 with ⟨q, fr⟩ | ⟨q, e1, E, ce, L, h5, h6⟩
  · exact Or.inl ⟨hQ x kx _ _ _ _ q, fr⟩
  · exact Or.inr ⟨q, e1, E, ce, L, hX x kx _ _ _ h5, h6⟩
def P2 (g : Gh) (N N' : Nat → Nat) (σ' : St) (u : Gh × (Nat → Nat) × St) : Prop := (∀ k n, n < N k → u.1 k n = g k n) ∧ u.2.1 = N' ∧ u.2.2 = σ'
theorem KI_relieve {cap N : Nat → Nat} {σ : St} (h : KI cap N σ) (b o : Int32) : KI cap N (s_X5_relieve σ b o) := by
  unfold s_X5_relieve
  refine KI_if (fun _ => KI_if (fun p => KI_if (fun _ => h) (fun _ => ?_)) (fun _ => h)) (fun _ => h)
  have ho : vp_in o (N 5) := num_in p h.2.1.2.1 (by have := h.1.2.2.1; omega)
  have key : ∀ (n i : Nat) (x : Int32) (τ : St), KI cap N τ → KI cap N (lf_X5_relieve_68 σ b o n i x τ).2 := by
    intro n
    induction n with
    | zero => intro i x τ k; exact k
    | succ n ih =>
      intro i x τ k
      simp only [lf_X5_relieve_68]
      split
      · exact k
      · exact ih _ _ _ (KI_if (fun _ => KI_if (fun _ => KI_s23 k ho) (fun _ => k)) (fun _ => k))
  exact key 61 0 0 σ h
def t_pass (k : Int32) : Int32 := if ¬ k < 1 ∧ k ≤ 1500 then 0 else 1
set_option maxHeartbeats 1000000 in
theorem u_swell (l : Launch) (hst : l.stackTraces = false) {D : va_G} {A : Nat → Prop} {cI cO : ClassId} {aE : Nat} {g : Gh} {N : Nat → Nat} (σ : St) (pier : Int32) (sw : Int32) : vx_Met l yX5_swell wsX5_swell ({ frames := 7, cells := 2, slots := 12, locals := 104 }) (va_Pc [.ref (g 0 0), .int pier, .int sw] (cGX D cI cO A aE g N σ)) (va_Qi (fun r (u : Gh × (Nat → Nat) × St) => r = q_X5_swell σ pier sw ∧ t_X5_swell σ pier sw = 0 ∧ P2 g N N (s_X5_swell σ pier sw) u) (fun u t => cGU D cI cO A aE u.1 u.2.1 u.2.2 t) A) (vx_X (fun (_ : Unit) => ¬ t_X5_swell σ pier sw = 0) (fun E _ t => E = exN (t_X5_swell σ pier sw) ∧ cGU D cI cO A aE g N (s_X5_swell σ pier sw) t) A) 2 12 A :=
  vx_ex (X := (Nat → Nat) × (Nat → Nat)) (K := fun x => GI aE N x.2 x.1 ∧ KI x.2 N σ) (P := fun x => va_Pc [.ref (gw g x.1 0 0), .int pier, .int sw] (cUX D cI cO A (gw g x.1) x.2 N σ)) (Q := fun x => va_Qi (fun r (_ : Unit) => r = q_X5_swell σ pier sw ∧ t_X5_swell σ pier sw = 0) (fun _ t => cU D cI cO A (gw g x.1) x.2 N (s_X5_swell σ pier sw) t) A) (XC := fun x => vx_X (fun (_ : Unit) => ¬ t_X5_swell σ pier sw = 0) (fun E _ t => E = exN (t_X5_swell σ pier sw) ∧ cU D cI cO A (gw g x.1) x.2 N (s_X5_swell σ pier sw) t) A)
    (fun x k => c_X5_swell l hst (g := gw g x.1) (cap := x.2) (N := N) σ pier sw k.2)
    (fun a s hp => by
      obtain ⟨rfl, ⟨⟨⟨ga, cap, hG, hI, hP⟩, hK⟩, hY⟩, hX⟩ := hp
      exact ⟨(ga, cap), ⟨hG, hI⟩, rfl, ⟨hP, hK⟩, hX⟩)
    (fun x k a s o t hq => by
      obtain ⟨⟨r, u, e1, ⟨e2, e3⟩, hB⟩, hF⟩ := hq
      have hk : KI x.2 N (s_X5_swell σ pier sw) := by unfold s_X5_swell; exact KI_if (fun _ => KI_if (fun _ => KI_o k.2 (by decide)) (fun _ => k.2)) (fun _ => k.2)
      exact ⟨⟨r, (g, N, s_X5_swell σ pier sw), e1, ⟨e2, e3, fun _ _ _ => rfl, rfl, rfl⟩, ⟨x.1, x.2, k.1, hk, hB.1⟩, hB.2⟩, hF⟩)
    (fun x k E s t hx => by
      obtain ⟨u, e1, ⟨e2, hB⟩, hF⟩ := hx
      have hk : KI x.2 N (s_X5_swell σ pier sw) := by unfold s_X5_swell; exact KI_if (fun _ => KI_if (fun _ => KI_o k.2 (by decide)) (fun _ => k.2)) (fun _ => k.2)
      exact ⟨(), e1, ⟨e2, ⟨x.1, x.2, k.1, hk, hB.1⟩, hB.2⟩, hF⟩)
set_option maxHeartbeats 1000000 in
theorem u_breakDown (l : Launch) (hst : l.stackTraces = false) {D : va_G} {A : Nat → Prop} {cI cO : ClassId} {aE : Nat} {g : Gh} {N : Nat → Nat} (σ : St) (boat : Int32) : vx_Met l yX5_breakDown wsX5_breakDown ({ frames := 7, cells := 1, slots := 6, locals := 103 }) (va_Pc [.ref (g 0 0), .int boat] (cGX D cI cO A aE g N σ)) (va_Qi (fun r (u : Gh × (Nat → Nat) × St) => r = q_X5_breakDown σ boat ∧ t_X5_breakDown σ boat = 0 ∧ P2 g N N (s_X5_breakDown σ boat) u) (fun u t => cGU D cI cO A aE u.1 u.2.1 u.2.2 t) A) (vx_X (fun (_ : Unit) => ¬ t_X5_breakDown σ boat = 0) (fun E _ t => E = exN (t_X5_breakDown σ boat) ∧ cGU D cI cO A aE g N (s_X5_breakDown σ boat) t) A) 1 6 A :=
  vx_ex (X := (Nat → Nat) × (Nat → Nat)) (K := fun x => GI aE N x.2 x.1 ∧ KI x.2 N σ) (P := fun x => va_Pc [.ref (gw g x.1 0 0), .int boat] (cUX D cI cO A (gw g x.1) x.2 N σ)) (Q := fun x => va_Qi (fun r (_ : Unit) => r = q_X5_breakDown σ boat ∧ t_X5_breakDown σ boat = 0) (fun _ t => cU D cI cO A (gw g x.1) x.2 N (s_X5_breakDown σ boat) t) A) (XC := fun x => vx_X (fun (_ : Unit) => ¬ t_X5_breakDown σ boat = 0) (fun E _ t => E = exN (t_X5_breakDown σ boat) ∧ cU D cI cO A (gw g x.1) x.2 N (s_X5_breakDown σ boat) t) A)
    (fun x k => c_X5_breakDown l hst (g := gw g x.1) (cap := x.2) (N := N) σ boat k.2)
    (fun a s hp => by
      obtain ⟨rfl, ⟨⟨⟨ga, cap, hG, hI, hP⟩, hK⟩, hY⟩, hX⟩ := hp
      exact ⟨(ga, cap), ⟨hG, hI⟩, rfl, ⟨hP, hK⟩, hX⟩)
    (fun x k a s o t hq => by
      obtain ⟨⟨r, u, e1, ⟨e2, e3⟩, hB⟩, hF⟩ := hq
      have hk : KI x.2 N (s_X5_breakDown σ boat) := by unfold s_X5_breakDown; exact KI_if (fun _ => KI_s20 k.2 (isB_if isB1 isB0)) (fun _ => k.2)
      exact ⟨⟨r, (g, N, s_X5_breakDown σ boat), e1, ⟨e2, e3, fun _ _ _ => rfl, rfl, rfl⟩, ⟨x.1, x.2, k.1, hk, hB.1⟩, hB.2⟩, hF⟩)
    (fun x k E s t hx => by
      obtain ⟨u, e1, ⟨e2, hB⟩, hF⟩ := hx
      have hk : KI x.2 N (s_X5_breakDown σ boat) := by unfold s_X5_breakDown; exact KI_if (fun _ => KI_s20 k.2 (isB_if isB1 isB0)) (fun _ => k.2)
      exact ⟨(), e1, ⟨e2, ⟨x.1, x.2, k.1, hk, hB.1⟩, hB.2⟩, hF⟩)
set_option maxHeartbeats 1000000 in
theorem u_relieve (l : Launch) (hst : l.stackTraces = false) {D : va_G} {A : Nat → Prop} {cI cO : ClassId} {aE : Nat} {g : Gh} {N : Nat → Nat} (σ : St) (boat : Int32) (other : Int32) : vx_Met l yX5_relieve wsX5_relieve ({ frames := 7, cells := 3, slots := 18, locals := 103 }) (va_Pc [.ref (g 0 0), .int boat, .int other] (cGX D cI cO A aE g N σ)) (va_Qi (fun r (u : Gh × (Nat → Nat) × St) => r = q_X5_relieve σ boat other ∧ t_X5_relieve σ boat other = 0 ∧ P2 g N N (s_X5_relieve σ boat other) u) (fun u t => cGU D cI cO A aE u.1 u.2.1 u.2.2 t) A) (vx_X (fun (_ : Unit) => ¬ t_X5_relieve σ boat other = 0) (fun E _ t => E = exN (t_X5_relieve σ boat other) ∧ cGU D cI cO A aE g N (s_X5_relieve σ boat other) t) A) 3 18 A :=
  vx_ex (X := (Nat → Nat) × (Nat → Nat)) (K := fun x => GI aE N x.2 x.1 ∧ KI x.2 N σ) (P := fun x => va_Pc [.ref (gw g x.1 0 0), .int boat, .int other] (cUX D cI cO A (gw g x.1) x.2 N σ)) (Q := fun x => va_Qi (fun r (_ : Unit) => r = q_X5_relieve σ boat other ∧ t_X5_relieve σ boat other = 0) (fun _ t => cU D cI cO A (gw g x.1) x.2 N (s_X5_relieve σ boat other) t) A) (XC := fun x => vx_X (fun (_ : Unit) => ¬ t_X5_relieve σ boat other = 0) (fun E _ t => E = exN (t_X5_relieve σ boat other) ∧ cU D cI cO A (gw g x.1) x.2 N (s_X5_relieve σ boat other) t) A)
    (fun x k => c_X5_relieve l hst (g := gw g x.1) (cap := x.2) (N := N) σ boat other k.2)
    (fun a s hp => by
      obtain ⟨rfl, ⟨⟨⟨ga, cap, hG, hI, hP⟩, hK⟩, hY⟩, hX⟩ := hp
      exact ⟨(ga, cap), ⟨hG, hI⟩, rfl, ⟨hP, hK⟩, hX⟩)
    (fun x k a s o t hq => by
      obtain ⟨⟨r, u, e1, ⟨e2, e3⟩, hB⟩, hF⟩ := hq
      have hk : KI x.2 N (s_X5_relieve σ boat other) := KI_relieve k.2 _ _
      exact ⟨⟨r, (g, N, s_X5_relieve σ boat other), e1, ⟨e2, e3, fun _ _ _ => rfl, rfl, rfl⟩, ⟨x.1, x.2, k.1, hk, hB.1⟩, hB.2⟩, hF⟩)
    (fun x k E s t hx => by
      obtain ⟨u, e1, ⟨e2, hB⟩, hF⟩ := hx
      have hk : KI x.2 N (s_X5_relieve σ boat other) := KI_relieve k.2 _ _
      exact ⟨(), e1, ⟨e2, ⟨x.1, x.2, k.1, hk, hB.1⟩, hB.2⟩, hF⟩)
set_option maxHeartbeats 1000000 in
theorem u_rate (l : Launch) (hst : l.stackTraces = false) {D : va_G} {A : Nat → Prop} {cI cO : ClassId} {aE : Nat} {g : Gh} {N : Nat → Nat} (σ : St) (kind : Int32) (cents : Int32) : vx_Met l yX5_rate wsX5_rate ({ frames := 7, cells := 2, slots := 12, locals := 104 }) (va_Pc [.ref (g 0 0), .int kind, .int cents] (cGX D cI cO A aE g N σ)) (va_Qi (fun r (u : Gh × (Nat → Nat) × St) => r = q_X5_rate σ kind cents ∧ t_X5_rate σ kind cents = 0 ∧ P2 g N N (s_X5_rate σ kind cents) u) (fun u t => cGU D cI cO A aE u.1 u.2.1 u.2.2 t) A) (vx_X (fun (_ : Unit) => ¬ t_X5_rate σ kind cents = 0) (fun E _ t => E = exN (t_X5_rate σ kind cents) ∧ cGU D cI cO A aE g N (s_X5_rate σ kind cents) t) A) 2 12 A :=
  vx_ex (X := (Nat → Nat) × (Nat → Nat)) (K := fun x => GI aE N x.2 x.1 ∧ KI x.2 N σ) (P := fun x => va_Pc [.ref (gw g x.1 0 0), .int kind, .int cents] (cUX D cI cO A (gw g x.1) x.2 N σ)) (Q := fun x => va_Qi (fun r (_ : Unit) => r = q_X5_rate σ kind cents ∧ t_X5_rate σ kind cents = 0) (fun _ t => cU D cI cO A (gw g x.1) x.2 N (s_X5_rate σ kind cents) t) A) (XC := fun x => vx_X (fun (_ : Unit) => ¬ t_X5_rate σ kind cents = 0) (fun E _ t => E = exN (t_X5_rate σ kind cents) ∧ cU D cI cO A (gw g x.1) x.2 N (s_X5_rate σ kind cents) t) A)
    (fun x k => c_X5_rate l hst (g := gw g x.1) (cap := x.2) (N := N) σ kind cents k.2)
    (fun a s hp => by
      obtain ⟨rfl, ⟨⟨⟨ga, cap, hG, hI, hP⟩, hK⟩, hY⟩, hX⟩ := hp
      exact ⟨(ga, cap), ⟨hG, hI⟩, rfl, ⟨hP, hK⟩, hX⟩)
    (fun x k a s o t hq => by
      obtain ⟨⟨r, u, e1, ⟨e2, e3⟩, hB⟩, hF⟩ := hq
      have hk : KI x.2 N (s_X5_rate σ kind cents) := by unfold s_X5_rate; exact KI_if (fun _ => KI_if (fun _ => KI_o k.2 (by decide)) (fun _ => k.2)) (fun _ => k.2)
      exact ⟨⟨r, (g, N, s_X5_rate σ kind cents), e1, ⟨e2, e3, fun _ _ _ => rfl, rfl, rfl⟩, ⟨x.1, x.2, k.1, hk, hB.1⟩, hB.2⟩, hF⟩)
    (fun x k E s t hx => by
      obtain ⟨u, e1, ⟨e2, hB⟩, hF⟩ := hx
      have hk : KI x.2 N (s_X5_rate σ kind cents) := by unfold s_X5_rate; exact KI_if (fun _ => KI_if (fun _ => KI_o k.2 (by decide)) (fun _ => k.2)) (fun _ => k.2)
      exact ⟨(), e1, ⟨e2, ⟨x.1, x.2, k.1, hk, hB.1⟩, hB.2⟩, hF⟩)
set_option maxHeartbeats 1000000 in
theorem u_tide (l : Launch) (hst : l.stackTraces = false) {D : va_G} {A : Nat → Prop} {cI cO : ClassId} {aE : Nat} {g : Gh} {N : Nat → Nat} (σ : St) (pier : Int32) (minute : Int32) : vx_Met l yX5_tide wsX5_tide ({ frames := 7, cells := 2, slots := 12, locals := 104 }) (va_Pc [.ref (g 0 0), .int pier, .int minute] (cGX D cI cO A aE g N σ)) (va_Qi (fun r (u : Gh × (Nat → Nat) × St) => r = q_X5_tide σ pier minute ∧ t_X5_tide σ pier minute = 0 ∧ P2 g N N (σ) u) (fun u t => cGU D cI cO A aE u.1 u.2.1 u.2.2 t) A) (vx_X (fun (_ : Unit) => ¬ t_X5_tide σ pier minute = 0) (fun E _ t => E = exN (t_X5_tide σ pier minute) ∧ cGU D cI cO A aE g N (σ) t) A) 2 12 A :=
  vx_ex (X := (Nat → Nat) × (Nat → Nat)) (K := fun x => GI aE N x.2 x.1 ∧ KI x.2 N σ) (P := fun x => va_Pc [.ref (gw g x.1 0 0), .int pier, .int minute] (cUX D cI cO A (gw g x.1) x.2 N σ)) (Q := fun x => va_Qi (fun r (_ : Unit) => r = q_X5_tide σ pier minute ∧ t_X5_tide σ pier minute = 0) (fun _ t => cU D cI cO A (gw g x.1) x.2 N (σ) t) A) (XC := fun x => vx_X (fun (_ : Unit) => ¬ t_X5_tide σ pier minute = 0) (fun E _ t => E = exN (t_X5_tide σ pier minute) ∧ cU D cI cO A (gw g x.1) x.2 N (σ) t) A)
    (fun x k => c_X5_tide l hst (g := gw g x.1) (cap := x.2) (N := N) σ pier minute k.2)
    (fun a s hp => by
      obtain ⟨rfl, ⟨⟨⟨ga, cap, hG, hI, hP⟩, hK⟩, hY⟩, hX⟩ := hp
      exact ⟨(ga, cap), ⟨hG, hI⟩, rfl, ⟨hP, hK⟩, hX⟩)
    (fun x k a s o t hq => by
      obtain ⟨⟨r, u, e1, ⟨e2, e3⟩, hB⟩, hF⟩ := hq
      have hk : KI x.2 N (σ) := k.2
      exact ⟨⟨r, (g, N, σ), e1, ⟨e2, e3, fun _ _ _ => rfl, rfl, rfl⟩, ⟨x.1, x.2, k.1, hk, hB.1⟩, hB.2⟩, hF⟩)
    (fun x k E s t hx => by
      obtain ⟨u, e1, ⟨e2, hB⟩, hF⟩ := hx
      have hk : KI x.2 N (σ) := k.2
      exact ⟨(), e1, ⟨e2, ⟨x.1, x.2, k.1, hk, hB.1⟩, hB.2⟩, hF⟩)
set_option maxHeartbeats 1000000 in
theorem u_boatOf (l : Launch) (hst : l.stackTraces = false) {D : va_G} {A : Nat → Prop} {cI cO : ClassId} {aE : Nat} {g : Gh} {N : Nat → Nat} (σ : St) (boat : Int32) (what : Int32) : vx_Met l yX5_boatOf wsX5_boatOf ({ frames := 7, cells := 2, slots := 12, locals := 104 }) (va_Pc [.ref (g 0 0), .int boat, .int what] (cGX D cI cO A aE g N σ)) (va_Qi (fun r (u : Gh × (Nat → Nat) × St) => r = q_X5_boatOf σ boat what ∧ t_X5_boatOf σ boat what = 0 ∧ P2 g N N (σ) u) (fun u t => cGU D cI cO A aE u.1 u.2.1 u.2.2 t) A) (vx_X (fun (_ : Unit) => ¬ t_X5_boatOf σ boat what = 0) (fun E _ t => E = exN (t_X5_boatOf σ boat what) ∧ cGU D cI cO A aE g N (σ) t) A) 2 12 A :=
  vx_ex (X := (Nat → Nat) × (Nat → Nat)) (K := fun x => GI aE N x.2 x.1 ∧ KI x.2 N σ) (P := fun x => va_Pc [.ref (gw g x.1 0 0), .int boat, .int what] (cUX D cI cO A (gw g x.1) x.2 N σ)) (Q := fun x => va_Qi (fun r (_ : Unit) => r = q_X5_boatOf σ boat what ∧ t_X5_boatOf σ boat what = 0) (fun _ t => cU D cI cO A (gw g x.1) x.2 N (σ) t) A) (XC := fun x => vx_X (fun (_ : Unit) => ¬ t_X5_boatOf σ boat what = 0) (fun E _ t => E = exN (t_X5_boatOf σ boat what) ∧ cU D cI cO A (gw g x.1) x.2 N (σ) t) A)
    (fun x k => c_X5_boatOf l hst (g := gw g x.1) (cap := x.2) (N := N) σ boat what k.2)
    (fun a s hp => by
      obtain ⟨rfl, ⟨⟨⟨ga, cap, hG, hI, hP⟩, hK⟩, hY⟩, hX⟩ := hp
      exact ⟨(ga, cap), ⟨hG, hI⟩, rfl, ⟨hP, hK⟩, hX⟩)
    (fun x k a s o t hq => by
      obtain ⟨⟨r, u, e1, ⟨e2, e3⟩, hB⟩, hF⟩ := hq
      have hk : KI x.2 N (σ) := k.2
      exact ⟨⟨r, (g, N, σ), e1, ⟨e2, e3, fun _ _ _ => rfl, rfl, rfl⟩, ⟨x.1, x.2, k.1, hk, hB.1⟩, hB.2⟩, hF⟩)
    (fun x k E s t hx => by
      obtain ⟨u, e1, ⟨e2, hB⟩, hF⟩ := hx
      have hk : KI x.2 N (σ) := k.2
      exact ⟨(), e1, ⟨e2, ⟨x.1, x.2, k.1, hk, hB.1⟩, hB.2⟩, hF⟩)
set_option maxHeartbeats 1000000 in
theorem u_sailingOf (l : Launch) (hst : l.stackTraces = false) {D : va_G} {A : Nat → Prop} {cI cO : ClassId} {aE : Nat} {g : Gh} {N : Nat → Nat} (σ : St) (sailing : Int32) (what : Int32) : vx_Met l yX5_sailingOf wsX5_sailingOf ({ frames := 7, cells := 2, slots := 12, locals := 104 }) (va_Pc [.ref (g 0 0), .int sailing, .int what] (cGX D cI cO A aE g N σ)) (va_Qi (fun r (u : Gh × (Nat → Nat) × St) => r = q_X5_sailingOf σ sailing what ∧ t_X5_sailingOf σ sailing what = 0 ∧ P2 g N N (σ) u) (fun u t => cGU D cI cO A aE u.1 u.2.1 u.2.2 t) A) (vx_X (fun (_ : Unit) => ¬ t_X5_sailingOf σ sailing what = 0) (fun E _ t => E = exN (t_X5_sailingOf σ sailing what) ∧ cGU D cI cO A aE g N (σ) t) A) 2 12 A :=
  vx_ex (X := (Nat → Nat) × (Nat → Nat)) (K := fun x => GI aE N x.2 x.1 ∧ KI x.2 N σ) (P := fun x => va_Pc [.ref (gw g x.1 0 0), .int sailing, .int what] (cUX D cI cO A (gw g x.1) x.2 N σ)) (Q := fun x => va_Qi (fun r (_ : Unit) => r = q_X5_sailingOf σ sailing what ∧ t_X5_sailingOf σ sailing what = 0) (fun _ t => cU D cI cO A (gw g x.1) x.2 N (σ) t) A) (XC := fun x => vx_X (fun (_ : Unit) => ¬ t_X5_sailingOf σ sailing what = 0) (fun E _ t => E = exN (t_X5_sailingOf σ sailing what) ∧ cU D cI cO A (gw g x.1) x.2 N (σ) t) A)
    (fun x k => c_X5_sailingOf l hst (g := gw g x.1) (cap := x.2) (N := N) σ sailing what k.2)
    (fun a s hp => by
      obtain ⟨rfl, ⟨⟨⟨ga, cap, hG, hI, hP⟩, hK⟩, hY⟩, hX⟩ := hp
      exact ⟨(ga, cap), ⟨hG, hI⟩, rfl, ⟨hP, hK⟩, hX⟩)
    (fun x k a s o t hq => by
      obtain ⟨⟨r, u, e1, ⟨e2, e3⟩, hB⟩, hF⟩ := hq
      have hk : KI x.2 N (σ) := k.2
      exact ⟨⟨r, (g, N, σ), e1, ⟨e2, e3, fun _ _ _ => rfl, rfl, rfl⟩, ⟨x.1, x.2, k.1, hk, hB.1⟩, hB.2⟩, hF⟩)
    (fun x k E s t hx => by
      obtain ⟨u, e1, ⟨e2, hB⟩, hF⟩ := hx
      have hk : KI x.2 N (σ) := k.2
      exact ⟨(), e1, ⟨e2, ⟨x.1, x.2, k.1, hk, hB.1⟩, hB.2⟩, hF⟩)
set_option maxHeartbeats 1000000 in
theorem u_against (l : Launch) (hst : l.stackTraces = false) {D : va_G} {A : Nat → Prop} {cI cO : ClassId} {aE : Nat} {g : Gh} {N : Nat → Nat} (σ : St) (sailing : Int32) : vx_Met l yX5_against wsX5_against ({ frames := 7, cells := 2, slots := 12, locals := 114 }) (va_Pc [.ref (g 0 0), .int sailing] (cGX D cI cO A aE g N σ)) (va_Qi (fun r (u : Gh × (Nat → Nat) × St) => r = q_X5_against σ sailing ∧ t_X5_against σ sailing = 0 ∧ P2 g N N (σ) u) (fun u t => cGU D cI cO A aE u.1 u.2.1 u.2.2 t) A) (vx_X (fun (_ : Unit) => ¬ t_X5_against σ sailing = 0) (fun E _ t => E = exN (t_X5_against σ sailing) ∧ cGU D cI cO A aE g N (σ) t) A) 2 12 A :=
  vx_ex (X := (Nat → Nat) × (Nat → Nat)) (K := fun x => GI aE N x.2 x.1 ∧ KI x.2 N σ) (P := fun x => va_Pc [.ref (gw g x.1 0 0), .int sailing] (cUX D cI cO A (gw g x.1) x.2 N σ)) (Q := fun x => va_Qi (fun r (_ : Unit) => r = q_X5_against σ sailing ∧ t_X5_against σ sailing = 0) (fun _ t => cU D cI cO A (gw g x.1) x.2 N (σ) t) A) (XC := fun x => vx_X (fun (_ : Unit) => ¬ t_X5_against σ sailing = 0) (fun E _ t => E = exN (t_X5_against σ sailing) ∧ cU D cI cO A (gw g x.1) x.2 N (σ) t) A)
    (fun x k => c_X5_against l hst (g := gw g x.1) (cap := x.2) (N := N) σ sailing k.2)
    (fun a s hp => by
      obtain ⟨rfl, ⟨⟨⟨ga, cap, hG, hI, hP⟩, hK⟩, hY⟩, hX⟩ := hp
      exact ⟨(ga, cap), ⟨hG, hI⟩, rfl, ⟨hP, hK⟩, hX⟩)
    (fun x k a s o t hq => by
      obtain ⟨⟨r, u, e1, ⟨e2, e3⟩, hB⟩, hF⟩ := hq
      have hk : KI x.2 N (σ) := k.2
      exact ⟨⟨r, (g, N, σ), e1, ⟨e2, e3, fun _ _ _ => rfl, rfl, rfl⟩, ⟨x.1, x.2, k.1, hk, hB.1⟩, hB.2⟩, hF⟩)
    (fun x k E s t hx => by
      obtain ⟨u, e1, ⟨e2, hB⟩, hF⟩ := hx
      have hk : KI x.2 N (σ) := k.2
      exact ⟨(), e1, ⟨e2, ⟨x.1, x.2, k.1, hk, hB.1⟩, hB.2⟩, hF⟩)
set_option maxHeartbeats 1000000 in
theorem u_bookingOf (l : Launch) (hst : l.stackTraces = false) {D : va_G} {A : Nat → Prop} {cI cO : ClassId} {aE : Nat} {g : Gh} {N : Nat → Nat} (σ : St) (booking : Int32) (what : Int32) : vx_Met l yX5_bookingOf wsX5_bookingOf ({ frames := 7, cells := 2, slots := 12, locals := 104 }) (va_Pc [.ref (g 0 0), .int booking, .int what] (cGX D cI cO A aE g N σ)) (va_Qi (fun r (u : Gh × (Nat → Nat) × St) => r = q_X5_bookingOf σ booking what ∧ t_X5_bookingOf σ booking what = 0 ∧ P2 g N N (σ) u) (fun u t => cGU D cI cO A aE u.1 u.2.1 u.2.2 t) A) (vx_X (fun (_ : Unit) => ¬ t_X5_bookingOf σ booking what = 0) (fun E _ t => E = exN (t_X5_bookingOf σ booking what) ∧ cGU D cI cO A aE g N (σ) t) A) 2 12 A :=
  vx_ex (X := (Nat → Nat) × (Nat → Nat)) (K := fun x => GI aE N x.2 x.1 ∧ KI x.2 N σ) (P := fun x => va_Pc [.ref (gw g x.1 0 0), .int booking, .int what] (cUX D cI cO A (gw g x.1) x.2 N σ)) (Q := fun x => va_Qi (fun r (_ : Unit) => r = q_X5_bookingOf σ booking what ∧ t_X5_bookingOf σ booking what = 0) (fun _ t => cU D cI cO A (gw g x.1) x.2 N (σ) t) A) (XC := fun x => vx_X (fun (_ : Unit) => ¬ t_X5_bookingOf σ booking what = 0) (fun E _ t => E = exN (t_X5_bookingOf σ booking what) ∧ cU D cI cO A (gw g x.1) x.2 N (σ) t) A)
    (fun x k => c_X5_bookingOf l hst (g := gw g x.1) (cap := x.2) (N := N) σ booking what k.2)
    (fun a s hp => by
      obtain ⟨rfl, ⟨⟨⟨ga, cap, hG, hI, hP⟩, hK⟩, hY⟩, hX⟩ := hp
      exact ⟨(ga, cap), ⟨hG, hI⟩, rfl, ⟨hP, hK⟩, hX⟩)
    (fun x k a s o t hq => by
      obtain ⟨⟨r, u, e1, ⟨e2, e3⟩, hB⟩, hF⟩ := hq
      have hk : KI x.2 N (σ) := k.2
      exact ⟨⟨r, (g, N, σ), e1, ⟨e2, e3, fun _ _ _ => rfl, rfl, rfl⟩, ⟨x.1, x.2, k.1, hk, hB.1⟩, hB.2⟩, hF⟩)
    (fun x k E s t hx => by
      obtain ⟨u, e1, ⟨e2, hB⟩, hF⟩ := hx
      have hk : KI x.2 N (σ) := k.2
      exact ⟨(), e1, ⟨e2, ⟨x.1, x.2, k.1, hk, hB.1⟩, hB.2⟩, hF⟩)
set_option maxHeartbeats 1000000 in
theorem u_plan (l : Launch) (hst : l.stackTraces = false) {D : va_G} {A : Nat → Prop} {cI cO : ClassId} {aE : Nat} {g : Gh} {N : Nat → Nat} (σ : St) (sailing : Int32) (place : Int32) (isOff : Int32) : vx_Met l yX5_plan wsX5_plan ({ frames := 7, cells := 2, slots := 12, locals := 103 }) (va_Pc [.ref (g 0 0), .int sailing, .int place, .int isOff] (cGX D cI cO A aE g N σ)) (va_Qi (fun r (u : Gh × (Nat → Nat) × St) => r = q_X5_plan σ sailing place isOff ∧ t_X5_plan σ sailing place isOff = 0 ∧ P2 g N N (σ) u) (fun u t => cGU D cI cO A aE u.1 u.2.1 u.2.2 t) A) (vx_X (fun (_ : Unit) => ¬ t_X5_plan σ sailing place isOff = 0) (fun E _ t => E = exN (t_X5_plan σ sailing place isOff) ∧ cGU D cI cO A aE g N (σ) t) A) 2 12 A :=
  vx_ex (X := (Nat → Nat) × (Nat → Nat)) (K := fun x => GI aE N x.2 x.1 ∧ KI x.2 N σ) (P := fun x => va_Pc [.ref (gw g x.1 0 0), .int sailing, .int place, .int isOff] (cUX D cI cO A (gw g x.1) x.2 N σ)) (Q := fun x => va_Qi (fun r (_ : Unit) => r = q_X5_plan σ sailing place isOff ∧ t_X5_plan σ sailing place isOff = 0) (fun _ t => cU D cI cO A (gw g x.1) x.2 N (σ) t) A) (XC := fun x => vx_X (fun (_ : Unit) => ¬ t_X5_plan σ sailing place isOff = 0) (fun E _ t => E = exN (t_X5_plan σ sailing place isOff) ∧ cU D cI cO A (gw g x.1) x.2 N (σ) t) A)
    (fun x k => c_X5_plan l hst (g := gw g x.1) (cap := x.2) (N := N) σ sailing place isOff k.2)
    (fun a s hp => by
      obtain ⟨rfl, ⟨⟨⟨ga, cap, hG, hI, hP⟩, hK⟩, hY⟩, hX⟩ := hp
      exact ⟨(ga, cap), ⟨hG, hI⟩, rfl, ⟨hP, hK⟩, hX⟩)
    (fun x k a s o t hq => by
      obtain ⟨⟨r, u, e1, ⟨e2, e3⟩, hB⟩, hF⟩ := hq
      have hk : KI x.2 N (σ) := k.2
      exact ⟨⟨r, (g, N, σ), e1, ⟨e2, e3, fun _ _ _ => rfl, rfl, rfl⟩, ⟨x.1, x.2, k.1, hk, hB.1⟩, hB.2⟩, hF⟩)
    (fun x k E s t hx => by
      obtain ⟨u, e1, ⟨e2, hB⟩, hF⟩ := hx
      have hk : KI x.2 N (σ) := k.2
      exact ⟨(), e1, ⟨e2, ⟨x.1, x.2, k.1, hk, hB.1⟩, hB.2⟩, hF⟩)
set_option maxHeartbeats 1000000 in
theorem u_gap (l : Launch) (hst : l.stackTraces = false) {D : va_G} {A : Nat → Prop} {cI cO : ClassId} {aE : Nat} {g : Gh} {N : Nat → Nat} (σ : St) (pier : Int32) (what : Int32) : vx_Met l yX5_gap wsX5_gap ({ frames := 7, cells := 2, slots := 12, locals := 104 }) (va_Pc [.ref (g 0 0), .int pier, .int what] (cGX D cI cO A aE g N σ)) (va_Qi (fun r (u : Gh × (Nat → Nat) × St) => r = q_X5_gap σ pier what ∧ t_X5_gap σ pier what = 0 ∧ P2 g N N (σ) u) (fun u t => cGU D cI cO A aE u.1 u.2.1 u.2.2 t) A) (vx_X (fun (_ : Unit) => ¬ t_X5_gap σ pier what = 0) (fun E _ t => E = exN (t_X5_gap σ pier what) ∧ cGU D cI cO A aE g N (σ) t) A) 2 12 A :=
  vx_ex (X := (Nat → Nat) × (Nat → Nat)) (K := fun x => GI aE N x.2 x.1 ∧ KI x.2 N σ) (P := fun x => va_Pc [.ref (gw g x.1 0 0), .int pier, .int what] (cUX D cI cO A (gw g x.1) x.2 N σ)) (Q := fun x => va_Qi (fun r (_ : Unit) => r = q_X5_gap σ pier what ∧ t_X5_gap σ pier what = 0) (fun _ t => cU D cI cO A (gw g x.1) x.2 N (σ) t) A) (XC := fun x => vx_X (fun (_ : Unit) => ¬ t_X5_gap σ pier what = 0) (fun E _ t => E = exN (t_X5_gap σ pier what) ∧ cU D cI cO A (gw g x.1) x.2 N (σ) t) A)
    (fun x k => c_X5_gap l hst (g := gw g x.1) (cap := x.2) (N := N) σ pier what k.2)
    (fun a s hp => by
      obtain ⟨rfl, ⟨⟨⟨ga, cap, hG, hI, hP⟩, hK⟩, hY⟩, hX⟩ := hp
      exact ⟨(ga, cap), ⟨hG, hI⟩, rfl, ⟨hP, hK⟩, hX⟩)
    (fun x k a s o t hq => by
      obtain ⟨⟨r, u, e1, ⟨e2, e3⟩, hB⟩, hF⟩ := hq
      have hk : KI x.2 N (σ) := k.2
      exact ⟨⟨r, (g, N, σ), e1, ⟨e2, e3, fun _ _ _ => rfl, rfl, rfl⟩, ⟨x.1, x.2, k.1, hk, hB.1⟩, hB.2⟩, hF⟩)
    (fun x k E s t hx => by
      obtain ⟨u, e1, ⟨e2, hB⟩, hF⟩ := hx
      have hk : KI x.2 N (σ) := k.2
      exact ⟨(), e1, ⟨e2, ⟨x.1, x.2, k.1, hk, hB.1⟩, hB.2⟩, hF⟩)
set_option maxHeartbeats 1000000 in
theorem u_pass (l : Launch) (hst : l.stackTraces = false) {D : va_G} {A : Nat → Prop} {cI cO : ClassId} {aE : Nat} {g : Gh} {N : Nat → Nat} (σ : St) (minutes : Int32) (hZ : KPz N σ) : vx_Met l yX5_pass wsX5_pass ({ frames := 10, cells := 1 + 2 * (cn8 N (s_X5_pass σ minutes) - cn8 N σ), slots := 6 + 300 * (cn8 N (s_X5_pass σ minutes) - cn8 N σ), locals := 285 }) (va_Pc [.ref (g 0 0), .int minutes] (cGX D cI cO A aE g N σ)) (va_Qi (fun r (u : Gh × (Nat → Nat) × St) => r = q_X5_pass σ minutes ∧ t_pass minutes = 0 ∧ P2 g N N (s_X5_pass σ minutes) u) (fun u t => cGU D cI cO A aE u.1 u.2.1 u.2.2 t) A) (vx_X (fun (_ : Unit) => ¬ t_pass minutes = 0) (fun E _ t => E = exN (t_pass minutes) ∧ cGU D cI cO A aE g N (σ) t) A) (1 + 2 * (cn8 N (s_X5_pass σ minutes) - cn8 N σ)) (6 + 300 * (cn8 N (s_X5_pass σ minutes) - cn8 N σ)) A :=
  vx_ex (X := Unit) (K := fun _ => True) (P := fun _ => va_Pc [.ref (g 0 0), .int minutes] (cGX D cI cO A aE g N σ)) (Q := fun _ => va_Qi (fun r (_ : Unit) => r = q_X5_pass σ minutes ∧ (¬ minutes < (1 : Int32) ∧ minutes ≤ (1500 : Int32))) (fun _ t => cGU D cI cO A aE g N (s_X5_pass σ minutes) t) A) (XC := fun _ => vx_X (fun (_ : Unit) => ¬ (¬ minutes < (1 : Int32) ∧ minutes ≤ (1500 : Int32))) (fun E _ t => E = "java/lang/IllegalArgumentException" ∧ cGU D cI cO A aE g N σ t) A)
    (fun _ _ => c_X5_pass l hst σ minutes hZ) (fun a s hp => ⟨(), trivial, hp⟩)
    (fun x k a s o t hq => by
      obtain ⟨⟨r, u, e1, ⟨e2, e3⟩, hB⟩, hF⟩ := hq
      exact ⟨⟨r, (g, N, s_X5_pass σ minutes), e1, ⟨e2, if_pos e3, fun _ _ _ => rfl, rfl, rfl⟩, hB⟩, hF⟩)
    (fun x k E s t hx => by
      obtain ⟨u, e1, ⟨e2, hB⟩, hF⟩ := hx
      have ht : t_pass minutes = 1 := if_neg e1
      exact ⟨(), by rw [ht]; decide, ⟨by rw [ht]; exact e2, hB⟩, hF⟩)
set_option maxHeartbeats 1000000 in
theorem u_pier (l : Launch) (hst : l.stackTraces = false) {D : va_G} {A : Nat → Prop} {cI cO : ClassId} {aE : Nat} {g : Gh} {N : Nat → Nat} (σ : St) (depth : Int32) (range : Int32) (phase : Int32) (isLit : Int32) (h_isLit : isB isLit) : vx_Met l yX5_pier wsX5_pier ({ frames := 8, cells := 6, slots := 196, locals := 215 }) (va_Pc [.ref (g 0 0), .int depth, .int range, .int phase, .int isLit] (cGX D cI cO A aE g N σ)) (va_Qi (fun r (u : Gh × (Nat → Nat) × St) => r = nI (N 4) ∧ t_X5_pier σ depth range phase isLit = 0 ∧ P2 g N (Nn N 4) (s_X5_pier N σ depth range phase isLit) u) (fun u t => cGU D cI cO A aE u.1 u.2.1 u.2.2 t) A) (vx_X (fun (_ : Unit) => ¬ t_X5_pier σ depth range phase isLit = 0) (fun E _ t => E = exN (t_X5_pier σ depth range phase isLit) ∧ cGU D cI cO A aE g N (σ) t) A) 6 196 A :=
  vx_ex (X := Unit) (K := fun _ => True) (P := fun _ => va_Pc [.ref (g 0 0), .int depth, .int range, .int phase, .int isLit] (cGX D cI cO A aE g N σ)) (Q := fun _ => va_Qi (fun r (u : Gh) => r = nI (N 4) ∧ t_X5_pier σ depth range phase isLit = 0 ∧ KN (Nn N 4) ∧ ∀ k n, n < N k → u k n = g k n) (fun u t => cGU D cI cO A aE u (Nn N 4) (s_X5_pier N σ depth range phase isLit) t) A) (XC := fun _ => vx_X (fun (_ : Unit) => ¬ t_X5_pier σ depth range phase isLit = 0) (fun E _ t => E = exN (t_X5_pier σ depth range phase isLit) ∧ cGU D cI cO A aE g N σ t) A)
    (fun _ _ => c_X5_pier l hst σ depth range phase isLit h_isLit) (fun a s hp => ⟨(), trivial, hp⟩)
    (fun x k a s o t hq => by
      obtain ⟨⟨r, u, e1, ⟨e2, e3, e4, e5⟩, hB⟩, hF⟩ := hq
      exact ⟨⟨r, (u, (Nn N 4), s_X5_pier N σ depth range phase isLit), e1, ⟨e2, e3, e5, rfl, rfl⟩, hB⟩, hF⟩)
    (fun x k E s t hx => hx)
set_option maxHeartbeats 1000000 in
theorem u_boat (l : Launch) (hst : l.stackTraces = false) {D : va_G} {A : Nat → Prop} {cI cO : ClassId} {aE : Nat} {g : Gh} {N : Nat → Nat} (σ : St) (draught : Int32) (length : Int32) (weight : Int32) (trim : Int32) (swell : Int32) (piers_ : Int32) (home : Int32)  : vx_Met l yX5_boat wsX5_boat ({ frames := 8, cells := 10, slots := 219, locals := 218 }) (va_Pc [.ref (g 0 0), .int draught, .int length, .int weight, .int trim, .int swell, .int piers_, .int home] (cGX D cI cO A aE g N σ)) (va_Qi (fun r (u : Gh × (Nat → Nat) × St) => r = nI (N 5) ∧ t_X5_boat σ draught length weight trim swell piers_ home = 0 ∧ P2 g N (Nn N 5) (s_X5_boat N σ draught length weight trim swell piers_ home) u) (fun u t => cGU D cI cO A aE u.1 u.2.1 u.2.2 t) A) (vx_X (fun (_ : Unit) => ¬ t_X5_boat σ draught length weight trim swell piers_ home = 0) (fun E _ t => E = exN (t_X5_boat σ draught length weight trim swell piers_ home) ∧ cGU D cI cO A aE g N (σ) t) A) 10 219 A :=
  vx_ex (X := Unit) (K := fun _ => True) (P := fun _ => va_Pc [.ref (g 0 0), .int draught, .int length, .int weight, .int trim, .int swell, .int piers_, .int home] (cGX D cI cO A aE g N σ)) (Q := fun _ => va_Qi (fun r (u : Gh) => r = nI (N 5) ∧ t_X5_boat σ draught length weight trim swell piers_ home = 0 ∧ KN (Nn N 5) ∧ ∀ k n, n < N k → u k n = g k n) (fun u t => cGU D cI cO A aE u (Nn N 5) (s_X5_boat N σ draught length weight trim swell piers_ home) t) A) (XC := fun _ => vx_X (fun (_ : Unit) => ¬ t_X5_boat σ draught length weight trim swell piers_ home = 0) (fun E _ t => E = exN (t_X5_boat σ draught length weight trim swell piers_ home) ∧ cGU D cI cO A aE g N σ t) A)
    (fun _ _ => c_X5_boat l hst σ draught length weight trim swell piers_ home ) (fun a s hp => ⟨(), trivial, hp⟩)
    (fun x k a s o t hq => by
      obtain ⟨⟨r, u, e1, ⟨e2, e3, e4, e5⟩, hB⟩, hF⟩ := hq
      exact ⟨⟨r, (u, (Nn N 5), s_X5_boat N σ draught length weight trim swell piers_ home), e1, ⟨e2, e3, e5, rfl, rfl⟩, hB⟩, hF⟩)
    (fun x k E s t hx => hx)
set_option maxHeartbeats 1000000 in
theorem u_sailing (l : Launch) (hst : l.stackTraces = false) {D : va_G} {A : Nat → Prop} {cI cO : ClassId} {aE : Nat} {g : Gh} {N : Nat → Nat} (σ : St) (boat : Int32) (from_ : Int32) (to_ : Int32) (ahead : Int32) (duration : Int32) (isLifeline : Int32) (h_life : isB isLifeline) : vx_Met l yX5_sailing wsX5_sailing ({ frames := 8, cells := 13, slots := 256, locals := 215 }) (va_Pc [.ref (g 0 0), .int boat, .int from_, .int to_, .int ahead, .int duration, .int isLifeline] (cGX D cI cO A aE g N σ)) (va_Qi (fun r (u : Gh × (Nat → Nat) × St) => r = nI (N 6) ∧ t_X5_sailing σ boat from_ to_ ahead duration isLifeline = 0 ∧ P2 g N (Ns N) (s_X5_sailing N σ boat from_ to_ ahead duration isLifeline) u) (fun u t => cGU D cI cO A aE u.1 u.2.1 u.2.2 t) A) (vx_X (fun (_ : Unit) => ¬ t_X5_sailing σ boat from_ to_ ahead duration isLifeline = 0) (fun E _ t => E = exN (t_X5_sailing σ boat from_ to_ ahead duration isLifeline) ∧ cGU D cI cO A aE g N (σ) t) A) 13 256 A :=
  vx_ex (X := Unit) (K := fun _ => True) (P := fun _ => va_Pc [.ref (g 0 0), .int boat, .int from_, .int to_, .int ahead, .int duration, .int isLifeline] (cGX D cI cO A aE g N σ)) (Q := fun _ => va_Qi (fun r (u : Gh) => r = nI (N 6) ∧ t_X5_sailing σ boat from_ to_ ahead duration isLifeline = 0 ∧ KN (Ns N) ∧ ∀ k n, n < N k → u k n = g k n) (fun u t => cGU D cI cO A aE u (Ns N) (s_X5_sailing N σ boat from_ to_ ahead duration isLifeline) t) A) (XC := fun _ => vx_X (fun (_ : Unit) => ¬ t_X5_sailing σ boat from_ to_ ahead duration isLifeline = 0) (fun E _ t => E = exN (t_X5_sailing σ boat from_ to_ ahead duration isLifeline) ∧ cGU D cI cO A aE g N σ t) A)
    (fun _ _ => c_X5_sailing l hst σ boat from_ to_ ahead duration isLifeline h_life) (fun a s hp => ⟨(), trivial, hp⟩)
    (fun x k a s o t hq => by
      obtain ⟨⟨r, u, e1, ⟨e2, e3, e4, e5⟩, hB⟩, hF⟩ := hq
      exact ⟨⟨r, (u, (Ns N), s_X5_sailing N σ boat from_ to_ ahead duration isLifeline), e1, ⟨e2, e3, e5, rfl, rfl⟩, hB⟩, hF⟩)
    (fun x k E s t hx => hx)
set_option maxHeartbeats 1000000 in
theorem u_book (l : Launch) (hst : l.stackTraces = false) {D : va_G} {A : Nat → Prop} {cI cO : ClassId} {aE : Nat} {g : Gh} {N : Nat → Nat} (σ : St) (sailing : Int32) (kind : Int32) (length : Int32) (weight : Int32) (danger : Int32) (isUrgent : Int32) (isLorry : Int32) (h_isUrgent : isB isUrgent) (h_isLorry : isB isLorry) : vx_Met l yX5_book wsX5_book ({ frames := 8, cells := 9, slots := 216, locals := 219 }) (va_Pc [.ref (g 0 0), .int sailing, .int kind, .int length, .int weight, .int danger, .int isUrgent, .int isLorry] (cGX D cI cO A aE g N σ)) (va_Qi (fun r (u : Gh × (Nat → Nat) × St) => r = nI (N 8) ∧ t_X5_book σ sailing kind length weight danger isUrgent isLorry = 0 ∧ P2 g N (Nn N 8) (s_X5_book N σ sailing kind length weight danger isUrgent isLorry) u) (fun u t => cGU D cI cO A aE u.1 u.2.1 u.2.2 t) A) (vx_X (fun (_ : Unit) => ¬ t_X5_book σ sailing kind length weight danger isUrgent isLorry = 0) (fun E _ t => E = exN (t_X5_book σ sailing kind length weight danger isUrgent isLorry) ∧ cGU D cI cO A aE g N (σ) t) A) 9 216 A :=
  vx_ex (X := Unit) (K := fun _ => True) (P := fun _ => va_Pc [.ref (g 0 0), .int sailing, .int kind, .int length, .int weight, .int danger, .int isUrgent, .int isLorry] (cGX D cI cO A aE g N σ)) (Q := fun _ => va_Qi (fun r (u : Gh) => r = nI (N 8) ∧ t_X5_book σ sailing kind length weight danger isUrgent isLorry = 0 ∧ KN (Nn N 8) ∧ ∀ k n, n < N k → u k n = g k n) (fun u t => cGU D cI cO A aE u (Nn N 8) (s_X5_book N σ sailing kind length weight danger isUrgent isLorry) t) A) (XC := fun _ => vx_X (fun (_ : Unit) => ¬ t_X5_book σ sailing kind length weight danger isUrgent isLorry = 0) (fun E _ t => E = exN (t_X5_book σ sailing kind length weight danger isUrgent isLorry) ∧ cGU D cI cO A aE g N σ t) A)
    (fun _ _ => c_X5_book l hst σ sailing kind length weight danger isUrgent isLorry h_isUrgent h_isLorry) (fun a s hp => ⟨(), trivial, hp⟩)
    (fun x k a s o t hq => by
      obtain ⟨⟨r, u, e1, ⟨e2, e3, e4, e5⟩, hB⟩, hF⟩ := hq
      exact ⟨⟨r, (u, (Nn N 8), s_X5_book N σ sailing kind length weight danger isUrgent isLorry), e1, ⟨e2, e3, e5, rfl, rfl⟩, hB⟩, hF⟩)
    (fun x k E s t hx => hx)
