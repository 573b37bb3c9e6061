/-! the world with the lists' arrays hidden (cG), and adding to a list in it -/
theorem Met_ex {l : Launch} {y : MethodName} {ws : List Cond} {rm : Room} {mc ms : Nat} {A : Nat → Prop} {X : Type} {P : X → Array Value → State → Prop} {Q : X → Array Value → State → Outcome → State → Prop} {P' : Array Value → State → Prop} {Q' : Array Value → State → Outcome → State → Prop} (h : ∀ x, Met l y ws rm (P x) (Q x) mc ms A) (hP : ∀ a s, P' a s → ∃ x, P x a s) (hQ : ∀ x a s o t, Q x a s o t → Q' a s o t) : Met l y ws rm P' Q' mc ms A := fun p e ha hc hk s m args below hf hap hp hK => by
  obtain ⟨x, hx⟩ := hP _ _ hp
  obtain ⟨n, o, h1, h2, h3, h4, h5⟩ := h x p e ha hc hk s m args below hf hap hx hK
  exact ⟨n, o, h1, h2, h3, hQ x _ _ _ _ h4, h5⟩
def gw (g : Gh) (a : Nat → Nat) : Gh := fun k n => match k with
  | 2 => a n
  | k => g k n
theorem gw_o {g : Gh} {a : Nat → Nat} {k n : Nat} (h : k ≠ 2) : gw g a k n = g k n := by
  unfold gw; split
  · exact absurd rfl h
  · rfl
theorem gw_of {g g1 : Gh} (h : ∀ k n, k ≠ 2 → g1 k n = g k n) : g1 = gw g (g1 2) := by
  funext k n
  by_cases hk : k = 2
  · subst hk; rfl
  · rw [gw_o hk, h k n hk]
def GI (aE : Nat) (N cap a : Nat → Nat) : Prop := (∀ q, q < N 1 → cap q = 0 → a q = aE) ∧ (∀ q, q < N 1 → cap q ≤ 150)
def cG (D : va_G) (cI cO : ClassId) (A : Nat → Prop) (aE : Nat) (g : Gh) (N : Nat → Nat) (τ : St) (H : Heap) : Prop := ∃ a cap : Nat → Nat, GI aE N cap a ∧ KI cap N τ ∧ cP D cI cO A (gw g a) cap N τ H
def cGU (D : va_G) (cI cO : ClassId) (A : Nat → Prop) (aE : Nat) (g : Gh) (N : Nat → Nat) (τ : St) (U : State) : Prop := cG D cI cO A aE g N τ U.heap ∧ va_K D vwCl (cT cI cO) U
def cGY (D : va_G) (cI cO : ClassId) (A : Nat → Prop) (aE : Nat) (g : Gh) (N : Nat → Nat) (τ : St) (U : State) : Prop := cGU D cI cO A aE g N τ U ∧ cY A aE cO U
theorem gyBl {D : va_G} {cI cO : ClassId} {A : Nat → Prop} {aE : Nat} {g : Gh} {N : Nat → Nat} {τ : St} {av : List Value} : FrameBlind (va_Pc av (cGY D cI cO A aE g N τ)) := fun a U g mk q => ⟨q.1, ⟨q.2.1.1, va_K.moved (u := U) (U := U.calling g mk a) (Vm.Alike.refl U.vm) q.2.1.2⟩, cY_bl q.2.2⟩
/-- what a list holds at its places, one put in at I -/
def sins (τ : St) (q I : Nat) (b : Int32) : St := fun f => if f = 100 + q then (fun i => if i < I then τ (100 + q) i else if i = I then b else τ (100 + q) (i - 1)) else τ f
def sadd (τ : St) (q I : Nat) (b : Int32) : St := sins (st (st τ 52 q (τ 52 q + 1)) 54 q (τ 54 q + 1)) q I b
theorem sadd_o {τ : St} {q I : Nat} {b : Int32} {f : Nat} (h : f ≠ 52 ∧ f ≠ 54 ∧ f < 100) : sadd τ q I b f = τ f := by
  unfold sadd sins
  show (if f = 100 + q then _ else st (st τ 52 q (τ 52 q + 1)) 54 q (τ 54 q + 1) f) = _
  rw [if_neg (by omega), st_nf _ q _ h.2.1, st_nf _ q _ h.1]
theorem sadd_100 {τ : St} {q I : Nat} {b : Int32} {f : Nat} (h : f ≠ 100 + q) (h2 : 100 ≤ f) : sadd τ q I b f = τ f := by
  unfold sadd sins
  show (if f = 100 + q then _ else st (st τ 52 q (τ 52 q + 1)) 54 q (τ 54 q + 1) f) = _
  rw [if_neg h, st_nf _ q _ (by omega), st_nf _ q _ (by omega)]
theorem sadd_54 {τ : St} {q I : Nat} {b : Int32} : sadd τ q I b 54 q = τ 54 q + 1 := by
  unfold sadd sins
  show (if 54 = 100 + q then _ else st (st τ 52 q (τ 52 q + 1)) 54 q (τ 54 q + 1) 54) q = _
  rw [if_neg (by omega), st_self]
theorem sadd_54n {τ : St} {q I j : Nat} {b : Int32} (h : j ≠ q) : sadd τ q I b 54 j = τ 54 j := by
  unfold sadd sins
  show (if 54 = 100 + q then _ else st (st τ 52 q (τ 52 q + 1)) 54 q (τ 54 q + 1) 54) j = _
  rw [if_neg (by omega), st_nj _ _ _ h, st_nf _ q _ (by decide)]
theorem sadd_c {τ : St} {q I i : Nat} {b : Int32} : sadd τ q I b (100 + q) i = if i < I then τ (100 + q) i else if i = I then b else τ (100 + q) (i - 1) := by
  unfold sadd sins
  show (if 100 + q = 100 + q then (fun i => if i < I then st (st τ 52 q (τ 52 q + 1)) 54 q (τ 54 q + 1) (100 + q) i else if i = I then b else st (st τ 52 q (τ 52 q + 1)) 54 q (τ 54 q + 1) (100 + q) (i - 1)) else _) i = _
  rw [if_pos rfl, st_nf _ q _ (by omega), st_nf _ q _ (by omega)]
theorem KI_sadd {cap N : Nat → Nat} {τ : St} {q I C : Nat} {b : Int32} (h : KI cap N τ) (h4 : 4 ≤ q) (hC : τ 54 q = nI C) (h99 : C ≤ 99) (hI : I ≤ C) (hc : C < cap q) (hb : vp_in b (N 8)) : KI cap N (sadd τ q I b) := by
  obtain ⟨h1, h2, h3, hh4, h5, h6⟩ := h
  unfold KI
  rw [sadd_54n (by omega), sadd_54n (by omega), sadd_54n (by omega), sadd_54n (by omega), sadd_o (by omega), sadd_o (by omega), sadd_o (by omega), sadd_o (by omega), sadd_o (by omega), sadd_o (by omega)]
  refine ⟨h1, h2, h3, hh4, h5, fun q' hq' => ?_⟩
  obtain ⟨C', a, b', c, d⟩ := h6 q' hq'
  unfold KL
  by_cases e : q' = q
  · subst e
    have hCC : C' = C := by
      have := a.symm.trans hC
      exact (nI_eq (by omega) (by omega)).mp this
    subst hCC
    refine ⟨C' + 1, by rw [sadd_54, a, nI_1], hc, by omega, fun _ i hi => ?_⟩
    rw [sadd_c]
    by_cases i1 : i < I
    · rw [if_pos i1]; exact d h4 i (by omega)
    · rw [if_neg i1]
      by_cases i2 : i = I
      · rw [if_pos i2]; exact hb
      · rw [if_neg i2]; exact d h4 (i - 1) (by omega)
  · rw [sadd_54n e, sadd_100 (by omega) (by omega)]
    exact ⟨C', a, b', c, d⟩
theorem cC_sadd {cI cO : ClassId} {g : Gh} {cap : Nat → Nat} {τ : St} {q I : Nat} {b : Int32} {k n : Nat} (hk : k ≠ 2) (h9 : k < 9) : cC cI cO g cap (sadd τ q I b) k n = cC cI cO g cap (st (st τ 52 q (τ 52 q + 1)) 54 q (τ 54 q + 1)) k n := by
  have e : ∀ f, f < 100 → sadd τ q I b f = st (st τ 52 q (τ 52 q + 1)) 54 q (τ 54 q + 1) f := fun f hf => by unfold sadd sins; exact if_neg (by omega)
  have h10 : k = 0 ∨ k = 1 ∨ k = 3 ∨ k = 4 ∨ k = 5 ∨ k = 6 ∨ k = 7 ∨ k = 8 := by omega
  clear h9
  rcases h10 with rfl | rfl | rfl | rfl | rfl | rfl | rfl | rfl
  · rw [cC_0, cC_0, e 1 (by decide)]
  · rw [cC_1, cC_1, e 52 (by decide), e 54 (by decide)]
  · rw [cC_3, cC_3, e 48 (by decide)]
  · rw [cC_4, cC_4, e 3 (by decide), e 4 (by decide), e 5 (by decide), e 6 (by decide), e 7 (by decide), e 8 (by decide), e 9 (by decide), e 10 (by decide), e 11 (by decide)]
  · rw [cC_5, cC_5, e 13 (by decide), e 14 (by decide), e 15 (by decide), e 16 (by decide), e 17 (by decide), e 18 (by decide), e 19 (by decide), e 20 (by decide)]
  · rw [cC_6, cC_6, e 23 (by decide), e 24 (by decide), e 25 (by decide), e 26 (by decide), e 27 (by decide), e 28 (by decide), e 50 (by decide), e 51 (by decide), e 22 (by decide), e 29 (by decide), e 31 (by decide)]
  · rw [cC_7, cC_7, e 32 (by decide), e 33 (by decide)]
  · rw [cC_8, cC_8, e 55 (by decide), e 36 (by decide), e 37 (by decide), e 38 (by decide), e 39 (by decide), e 40 (by decide), e 41 (by decide), e 42 (by decide), e 35 (by decide), e 44 (by decide), e 43 (by decide), e 45 (by decide)]
theorem ek_8 {q : Nat} (h : 4 ≤ q) : ek q = 8 := by unfold ek; rw [if_neg (by omega), if_neg (by omega), if_neg (by omega)]
theorem ek_2 (q : Nat) : ek q ≠ 2 := by
  unfold ek
  by_cases h0 : q = 0
  · rw [if_pos h0]; decide
  · rw [if_neg h0]
    by_cases h1 : q = 1
    · rw [if_pos h1]; decide
    · rw [if_neg h1]
      by_cases h2 : q = 2
      · rw [if_pos h2]; decide
      · rw [if_neg h2]; decide
theorem cn_4 {τ : St} {q i : Nat} (h : 4 ≤ q) : cn τ q i = (τ (100 + q) i).toNatClampNeg := if_neg (by omega)
/-- the row behind the adding, as the state has it -/
theorem crow_sadd {g g1 : Gh} {τ : St} {q I C : Nat} {b : Int32} {e₁ : Nat} (h4 : 4 ≤ q) (hC : τ 54 q = nI C) (h99 : C ≤ 99) (hI : I ≤ C) (hg : ∀ k n, k ≠ 2 → g1 k n = g k n) (he : e₁ = g 8 b.toNatClampNeg) {f : Nat → Option Nat} (hf : ∀ i, f i = if i = I then some e₁ else if I + 1 ≤ i ∧ i < I + 1 + (C - I) then crow g τ q (i - 1) else crow g τ q i) : f = crow g1 (sadd τ q I b) q := by
  funext i
  rw [hf i]
  unfold crow
  rw [sadd_54, hC, nI_1, nI_clamp (by omega), nI_clamp (by omega), ek_8 h4, cn_4 h4, cn_4 h4, cn_4 h4, sadd_c, hg 8 _ (by decide)]
  by_cases i1 : i = I
  · rw [if_pos i1, if_pos (by omega), if_neg (by omega), if_pos i1, he]
  · rw [if_neg i1, if_neg i1]
    by_cases i2 : I + 1 ≤ i ∧ i < I + 1 + (C - I)
    · rw [if_pos i2, if_pos (by omega), if_pos (by omega), if_neg (by omega)]
    · rw [if_neg i2]
      by_cases i3 : i < I
      · rw [if_pos (by omega), if_pos (by omega), if_pos i3]
      · rw [if_neg (by omega), if_neg (by omega)]
theorem crow_sadd_o {g g1 : Gh} {τ : St} {q I j : Nat} {b : Int32} (hj : j ≠ q) (hg : ∀ k n, k ≠ 2 → g1 k n = g k n) : crow g τ j = crow g1 (sadd τ q I b) j := by
  funext i
  unfold crow cn
  rw [sadd_54n hj, sadd_100 (by omega) (by omega), hg _ _ (ek_2 j)]
theorem EL_crow {cap N : Nat → Nat} {g : Gh} {τ : St} {q C : Nat} (h4 : 4 ≤ q) (hL : KL cap N τ q) : EL N cap g (crow g τ q) := by
  intro i y h
  unfold crow at h
  by_cases hi : i < (τ 54 q).toNatClampNeg
  · rw [if_pos hi, ek_8 h4, cn_4 h4] at h
    obtain ⟨C, a, b, c, d⟩ := hL
    rw [a, nI_clamp (by omega)] at hi
    exact ⟨8, _, ⟨by decide, vp_lt (d h4 i hi), fun z => absurd z (by decide)⟩, by omega, (Option.some.inj h).symm⟩
  · rw [if_neg hi] at h; cases h
/-- from what the list's own method leaves, to the hidden world -/
theorem cG_sadd {D : va_G} {cI cO : ClassId} {A : Nat → Prop} {aE : Nat} {g g1 : Gh} {a cap cap1 N : Nat → Nat} {τ : St} {q I C : Nat} {b : Int32} {e₁ : Nat} {f : Nat → Option Nat} {H : Heap} (hGI : GI aE N cap a) (hK : KI cap N τ) (h4 : 4 ≤ q) (hC : τ 54 q = nI C) (h99 : C ≤ 99) (hI : I ≤ C) (hb : vp_in b (N 8)) (he : e₁ = gw g a 8 b.toNatClampNeg) (hf : ∀ i, f i = if i = I then some e₁ else if I + 1 ≤ i ∧ i < I + 1 + (C - I) then crow (gw g a) τ q (i - 1) else crow (gw g a) τ q i) (hG : GC (gw g a) cap q g1 cap1) (hlt : C < cap1 q) (hQ : cQ D cI cO A g1 cap1 N (ru (crow (gw g a) τ) q f) (st (st τ 52 q (τ 52 q + 1)) 54 q (nI (C + 1))) H) : cG D cI cO A aE g N (sadd τ q I b) H := by
  have hle : ∀ j, cap j ≤ cap1 j := fun j => by
    by_cases hj : j = q
    · subst hj; exact hG.2.2.1
    · rw [(hG.2.1 j hj).2]; exact Nat.le_refl _
  have hK1 : KI cap1 N τ := ⟨hK.1, hK.2.1, hK.2.2.1, hK.2.2.2.1, hK.2.2.2.2.1, fun j hj => by
    obtain ⟨C', x, y, z, w⟩ := hK.2.2.2.2.2 j hj
    exact ⟨C', x, Nat.le_trans y (hle j), z, w⟩⟩
  have hgg : ∀ k n, k ≠ 2 → g1 k n = g k n := fun k n hk => (hG.1 k n hk).trans (gw_o hk)
  refine ⟨g1 2, cap1, ⟨fun j hj h0 => ?_, fun j hj => ?_⟩, KI_sadd hK1 h4 hC h99 hI hlt hb, ?_⟩
  · by_cases e : j = q
    · subst e; omega
    · rw [(hG.2.1 j e).1]
      rw [(hG.2.1 j e).2] at h0
      exact hGI.1 j hj h0
  · by_cases e : j = q
    · subst e; exact hG.2.2.2.2
    · rw [(hG.2.1 j e).2]; exact hGI.2 j hj
  · rw [← gw_of hgg]
    rw [show nI (C + 1) = τ 54 q + 1 by rw [hC, nI_1]] at hQ
    refine ⟨fun k n hl => ?_, hQ.2⟩
    have h1 := hQ.1 k n hl
    by_cases hk : k = 2
    · subst hk
      rw [cD_2] at h1
      rw [cC_2]
      by_cases e : n = q
      · subst e
        rw [ru_at, crow_sadd h4 hC h99 hI hG.1 he hf] at h1
        exact h1
      · unfold ru at h1
        rw [if_neg e, crow_sadd_o e hG.1] at h1
        exact h1
    · rw [cD_o hk] at h1
      rw [cC_sadd hk hl.1]; exact h1
theorem cap_C {cap N : Nat → Nat} {τ : St} {q C : Nat} (hC : τ 54 q = nI C) (hL : KL cap N τ q) (hb : C ≤ 99 := by omega) : C ≤ cap q := by
  obtain ⟨C', a, b, c, -⟩ := hL
  have := (nI_eq (a := C') (b := C) (by omega) (by omega)).mp (a.symm.trans hC)
  omega
theorem c_AL_addG (l : Launch) {D : va_G} {A : Nat → Prop} {cI cO : ClassId} {aE : Nat} {g : Gh} {N : Nat → Nat} (τ : St) (q C : Nat) (b : Int32) (h4 : 4 ≤ q) (hq : q < N 1) (hC : τ 54 q = nI C) (h99 : C ≤ 99) (hb : vp_in b (N 8)) : Met l yJx4a65c_add_9ea2d wsJx4a65c_add_9ea2d ({ frames := 6, cells := 1, slots := 150, locals := 190 }) (va_Pc [.ref (g 1 q), .ref (g 8 b.toNatClampNeg)] (cGY D cI cO A aE g N τ)) (va_Qi (fun r (_ : Unit) => r = 1) (fun _ t => cGU D cI cO A aE g N (sadd τ q C b) t) A) 1 150 A := by
  refine Met_ex (X := {x : (Nat → Nat) × (Nat → Nat) // GI aE N x.2 x.1 ∧ KI x.2 N τ}) (P := fun x => va_Pc [.ref (g 1 q), .ref (g 8 b.toNatClampNeg)] (qY D cI cO A aE (gw g x.1.1) x.1.2 N (crow (gw g x.1.1) τ) τ)) (fun x => l_add l (g := gw g x.1.1) (cap := x.1.2) (rw := crow (gw g x.1.1) τ) τ q C (g 8 b.toNatClampNeg) ⟨by decide, hq, fun z => absurd z (by decide)⟩ x.2.2.1.2.2.2.2.2.2.2.1 (cap_C hC (x.2.2.2.2.2.2.2 q hq)) (x.2.1.2 q hq) h99 (fun z => x.2.1.1 q hq z) (fun i hi => if_neg (by rw [hC, nI_clamp (by omega)]; omega)) (EL_crow (C := C) h4 (x.2.2.2.2.2.2.2 q hq)) hC ⟨8, b.toNatClampNeg, ⟨by decide, vp_lt hb, fun z => absurd z (by decide)⟩, by omega, rfl⟩) ?_ ?_
  · rintro a s ⟨hav, ⟨⟨ga, cap, hGI, hKI, hP⟩, hK⟩, hY⟩
    exact ⟨⟨(ga, cap), hGI, hKI⟩, hav, ⟨cQ_of hP, hK⟩, hY⟩
  · rintro x a s o t ⟨⟨r, u, ho, ⟨hr, hG, hlt⟩, hQ, hK⟩, hF⟩
    refine ⟨⟨r, (), ho, hr, cG_sadd x.2.1 x.2.2 h4 hC h99 (Nat.le_refl _) hb rfl (fun i => ?_) hG hlt hQ, hK⟩, hF⟩
    show (if i = C then _ else _) = _
    by_cases i1 : i = C
    · rw [if_pos i1, if_pos i1]; rfl
    · rw [if_neg i1, if_neg i1, if_neg (by omega)]
theorem c_AL_addAtG (l : Launch) {D : va_G} {A : Nat → Prop} {cI cO : ClassId} {aE : Nat} {g : Gh} {N : Nat → Nat} (τ : St) (q C I : Nat) (b : Int32) (h4 : 4 ≤ q) (hq : q < N 1) (hC : τ 54 q = nI C) (h99 : C ≤ 99) (hb : vp_in b (N 8)) (hI : I ≤ C) : Met l yJx4a65c_add_7a177 wsJx4a65c_add_7a177 ({ frames := 5, cells := 1, slots := 150, locals := 170 }) (va_Pc [.ref (g 1 q), .int (nI I), .ref (g 8 b.toNatClampNeg)] (cGY D cI cO A aE g N τ)) (va_Qv (fun (_ : Unit) => True) (fun _ t => cGU D cI cO A aE g N (sadd τ q I b) t) A) 1 150 A := by
  refine Met_ex (X := {x : (Nat → Nat) × (Nat → Nat) // GI aE N x.2 x.1 ∧ KI x.2 N τ}) (P := fun x => va_Pc [.ref (g 1 q), .int (nI I), .ref (g 8 b.toNatClampNeg)] (qY D cI cO A aE (gw g x.1.1) x.1.2 N (crow (gw g x.1.1) τ) τ)) (fun x => l_addAt l (g := gw g x.1.1) (cap := x.1.2) (rw := crow (gw g x.1.1) τ) τ q C I (g 8 b.toNatClampNeg) ⟨by decide, hq, fun z => absurd z (by decide)⟩ x.2.2.1.2.2.2.2.2.2.2.1 (cap_C hC (x.2.2.2.2.2.2.2 q hq)) (x.2.1.2 q hq) h99 hI (fun z => x.2.1.1 q hq z) (fun i hi => if_neg (by rw [hC, nI_clamp (by omega)]; omega)) (EL_crow (C := C) h4 (x.2.2.2.2.2.2.2 q hq)) hC ⟨8, b.toNatClampNeg, ⟨by decide, vp_lt hb, fun z => absurd z (by decide)⟩, by omega, rfl⟩) ?_ ?_
  · rintro a s ⟨hav, ⟨⟨ga, cap, hGI, hKI, hP⟩, hK⟩, hY⟩
    exact ⟨⟨(ga, cap), hGI, hKI⟩, hav, ⟨cQ_of hP, hK⟩, hY⟩
  · rintro x a s o t ⟨⟨u, ho, ⟨hG, hlt⟩, hQ, hK⟩, hF⟩
    refine ⟨⟨(), ho, trivial, cG_sadd x.2.1 x.2.2 h4 hC h99 hI hb rfl (fun i => ?_) hG hlt hQ, hK⟩, hF⟩
    show (if i = I then _ else (if I + 1 ≤ i ∧ i < I + 1 + (C - I) then _ else _)) = _
    by_cases i1 : i = I
    · rw [if_pos i1, if_pos i1]; rfl
    · rw [if_neg i1, if_neg i1]
      by_cases i2 : I + 1 ≤ i ∧ i < I + 1 + (C - I)
      · rw [if_pos i2, if_pos i2, show I + (i - (I + 1)) = i - 1 by omega]
      · rw [if_neg i2, if_neg i2]
