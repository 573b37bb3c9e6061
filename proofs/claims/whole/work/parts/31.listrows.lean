/-! lists written: the world cQ, in which what a list's row holds is told apart from the state (rw) -/
abbrev rE (cO : ClassId) (n : Nat) (f : Nat → Option Nat) : va_E := .inl (cO, n, .inr (.inr (.inr (.inr f))))
def cD (cI cO : ClassId) (g : Gh) (cap : Nat → Nat) (rw : Nat → Nat → Option Nat) (τ : St) (k n : Nat) : va_E := if k = 2 then rE cO (cap n) (rw n) else cC cI cO g cap τ k n
theorem cD_2 {cI cO : ClassId} {g : Gh} {cap : Nat → Nat} {rw : Nat → Nat → Option Nat} {τ : St} {n : Nat} : cD cI cO g cap rw τ 2 n = rE cO (cap n) (rw n) := if_pos rfl
theorem cD_o {cI cO : ClassId} {g : Gh} {cap : Nat → Nat} {rw : Nat → Nat → Option Nat} {τ : St} {k n : Nat} (h : k ≠ 2) : cD cI cO g cap rw τ k n = cC cI cO g cap τ k n := if_neg h
def cQ (D : va_G) (cI cO : ClassId) (A : Nat → Prop) (g : Gh) (cap N : Nat → Nat) (rw : Nat → Nat → Option Nat) (τ : St) (H : Heap) : Prop := (∀ k n, lv N cap k n → va_at D vwCl (g k n, cD cI cO g cap rw τ k n) H ∧ A (g k n)) ∧ (∀ k n k' n', lv N cap k n → lv N cap k' n' → g k n = g k' n' → k = k' ∧ n = n')
theorem cQ_of {D : va_G} {cI cO : ClassId} {A : Nat → Prop} {g : Gh} {cap N : Nat → Nat} {τ : St} {H : Heap} (h : cP D cI cO A g cap N τ H) : cQ D cI cO A g cap N (crow g τ) τ H := by
  refine ⟨fun k n hl => ?_, h.2⟩
  by_cases hk : k = 2
  · subst hk; rw [cD_2]; exact h.1 2 n hl
  · rw [cD_o hk]; exact h.1 k n hl
theorem cQ_to {D : va_G} {cI cO : ClassId} {A : Nat → Prop} {g : Gh} {cap N : Nat → Nat} {rw : Nat → Nat → Option Nat} {τ : St} {H : Heap} (h : cQ D cI cO A g cap N rw τ H) (hr : ∀ q, q < N 2 → 0 < cap q → rw q = crow g τ q) : cP D cI cO A g cap N τ H := by
  refine ⟨fun k n hl => ?_, h.2⟩
  have h1 := h.1 k n hl
  by_cases hk : k = 2
  · subst hk
    rw [cD_2, hr n hl.2.1 (hl.2.2 rfl)] at h1
    exact h1
  · rw [cD_o hk] at h1; exact h1
theorem cQ_kept {D : va_G} {cI cO : ClassId} {A : Nat → Prop} {g : Gh} {cap N : Nat → Nat} {rw : Nat → Nat → Option Nat} {τ : St} {H H1 : Heap} (h : cQ D cI cO A g cap N rw τ H) (oq : ∀ k n, lv N cap k n → H1[g k n]? = H[g k n]?) : cQ D cI cO A g cap N rw τ H1 :=
  ⟨fun k n hl => ⟨(h.1 k n hl).1.kept (oq k n hl), (h.1 k n hl).2⟩, h.2⟩
theorem cQ_set {D : va_G} {cI cO : ClassId} {A : Nat → Prop} {g : Gh} {cap N : Nat → Nat} {rw rw' : Nat → Nat → Option Nat} {τ τ' : St} {H H1 : Heap} (h : cQ D cI cO A g cap N rw τ H) {k n : Nat} (hl : lv N cap k n) (he : va_at D vwCl (g k n, cD cI cO g cap rw' τ' k n) H1) (oq : ∀ q, q ≠ g k n → H1[q]? = H[q]?) (hs : ∀ k' n', lv N cap k' n' → ¬ (k' = k ∧ n' = n) → cD cI cO g cap rw' τ' k' n' = cD cI cO g cap rw τ k' n') : cQ D cI cO A g cap N rw' τ' H1 := by
  refine ⟨fun k' n' hl' => ?_, h.2⟩
  by_cases hq : k' = k ∧ n' = n
  · obtain ⟨rfl, rfl⟩ := hq
    exact ⟨he, (h.1 _ _ hl).2⟩
  · rw [hs k' n' hl' hq]
    exact ⟨(h.1 k' n' hl').1.kept (oq _ (fun z => hq (h.2 _ _ _ _ hl' hl z))), (h.1 k' n' hl').2⟩
def qU (D : va_G) (cI cO : ClassId) (A : Nat → Prop) (g : Gh) (cap N : Nat → Nat) (rw : Nat → Nat → Option Nat) (τ : St) (U : State) : Prop := cQ D cI cO A g cap N rw τ U.heap ∧ va_K D vwCl (cT cI cO) U
/-- the list q's array is the one at r, of n places -/
def gq (g : Gh) (q r : Nat) : Gh := fun k n => match k with
  | 2 => if n = q then r else g 2 n
  | k => g k n
def cq (cap : Nat → Nat) (q n : Nat) : Nat → Nat := fun j => if j = q then n else cap j
def ru (rw : Nat → Nat → Option Nat) (q : Nat) (f : Nat → Option Nat) : Nat → Nat → Option Nat := fun j => if j = q then f else rw j
theorem gq_o {g : Gh} {q r k n : Nat} (h : k ≠ 2) : gq g q r k n = g k n := by
  unfold gq; split
  · exact absurd rfl h
  · rfl
theorem gq_2 {g : Gh} {q r n : Nat} : gq g q r 2 n = if n = q then r else g 2 n := rfl
theorem cC_gq {cI cO : ClassId} {g : Gh} {q r n' : Nat} {cap : Nat → Nat} {τ : St} {k n : Nat} (hk : k ≠ 2) (h9 : k < 9) (h : ¬ (k = 1 ∧ n = q)) : cC cI cO (gq g q r) (cq cap q n') τ k n = cC cI cO g cap τ k n := by
  have h10 : k = 0 ∨ k = 1 ∨ k = 3 ∨ k = 4 ∨ k = 5 ∨ k = 6 ∨ k = 7 ∨ k = 8 := by omega
  rcases h10 with rfl | rfl | rfl | rfl | rfl | rfl | rfl | rfl
  · rfl
  · rw [cC_1, cC_1, gq_2, if_neg (fun z => h ⟨rfl, z⟩)]
  all_goals rfl
theorem cds_52 {cI cO : ClassId} {g : Gh} {cap N : Nat → Nat} {rw : Nat → Nat → Option Nat} {τ : St} {n : Nat} {v : Int32} : ∀ k' n', lv N cap k' n' → ¬ (k' = 1 ∧ n' = n) → cD cI cO g cap rw (st τ 52 n v) k' n' = cD cI cO g cap rw τ k' n' := by
  intro k n' hl hne
  obtain ⟨h9, -, -⟩ := hl
  have h10 : k = 0 ∨ k = 1 ∨ k = 2 ∨ k = 3 ∨ k = 4 ∨ k = 5 ∨ k = 6 ∨ k = 7 ∨ k = 8 := by omega
  clear h9
  rcases h10 with rfl | rfl | rfl | rfl | rfl | rfl | rfl | rfl | rfl
  · rw [cD_o (by decide), cD_o (by decide), cC_0, cC_0, st_nf τ n v (f := 52) (g := 1) (by decide)]
  · have hj : n' ≠ n := fun z => hne ⟨rfl, z⟩; rw [cD_o (by decide), cD_o (by decide), cC_1, cC_1, st_nj τ 52 v hj, st_nf τ n v (f := 52) (g := 54) (by decide)]
  · rw [cD_2, cD_2]
  · rw [cD_o (by decide), cD_o (by decide), cC_3, cC_3, st_nf τ n v (f := 52) (g := 48) (by decide)]
  · rw [cD_o (by decide), cD_o (by decide), cC_4, cC_4, st_nf τ n v (f := 52) (g := 3) (by decide), st_nf τ n v (f := 52) (g := 4) (by decide), st_nf τ n v (f := 52) (g := 5) (by decide), st_nf τ n v (f := 52) (g := 6) (by decide), st_nf τ n v (f := 52) (g := 7) (by decide), st_nf τ n v (f := 52) (g := 8) (by decide), st_nf τ n v (f := 52) (g := 9) (by decide), st_nf τ n v (f := 52) (g := 10) (by decide), st_nf τ n v (f := 52) (g := 11) (by decide)]
  · rw [cD_o (by decide), cD_o (by decide), cC_5, cC_5, st_nf τ n v (f := 52) (g := 13) (by decide), st_nf τ n v (f := 52) (g := 14) (by decide), st_nf τ n v (f := 52) (g := 15) (by decide), st_nf τ n v (f := 52) (g := 16) (by decide), st_nf τ n v (f := 52) (g := 17) (by decide), st_nf τ n v (f := 52) (g := 18) (by decide), st_nf τ n v (f := 52) (g := 19) (by decide), st_nf τ n v (f := 52) (g := 20) (by decide)]
  · rw [cD_o (by decide), cD_o (by decide), cC_6, cC_6, st_nf τ n v (f := 52) (g := 23) (by decide), st_nf τ n v (f := 52) (g := 24) (by decide), st_nf τ n v (f := 52) (g := 25) (by decide), st_nf τ n v (f := 52) (g := 26) (by decide), st_nf τ n v (f := 52) (g := 27) (by decide), st_nf τ n v (f := 52) (g := 28) (by decide), st_nf τ n v (f := 52) (g := 50) (by decide), st_nf τ n v (f := 52) (g := 51) (by decide), st_nf τ n v (f := 52) (g := 22) (by decide), st_nf τ n v (f := 52) (g := 29) (by decide), st_nf τ n v (f := 52) (g := 31) (by decide)]
  · rw [cD_o (by decide), cD_o (by decide), cC_7, cC_7, st_nf τ n v (f := 52) (g := 32) (by decide), st_nf τ n v (f := 52) (g := 33) (by decide)]
  · rw [cD_o (by decide), cD_o (by decide), cC_8, cC_8, st_nf τ n v (f := 52) (g := 55) (by decide), st_nf τ n v (f := 52) (g := 36) (by decide), st_nf τ n v (f := 52) (g := 37) (by decide), st_nf τ n v (f := 52) (g := 38) (by decide), st_nf τ n v (f := 52) (g := 39) (by decide), st_nf τ n v (f := 52) (g := 40) (by decide), st_nf τ n v (f := 52) (g := 41) (by decide), st_nf τ n v (f := 52) (g := 42) (by decide), st_nf τ n v (f := 52) (g := 35) (by decide), st_nf τ n v (f := 52) (g := 44) (by decide), st_nf τ n v (f := 52) (g := 43) (by decide), st_nf τ n v (f := 52) (g := 45) (by decide)]
theorem cds_54 {cI cO : ClassId} {g : Gh} {cap N : Nat → Nat} {rw : Nat → Nat → Option Nat} {τ : St} {n : Nat} {v : Int32} : ∀ k' n', lv N cap k' n' → ¬ (k' = 1 ∧ n' = n) → cD cI cO g cap rw (st τ 54 n v) k' n' = cD cI cO g cap rw τ k' n' := by
  intro k n' hl hne
  obtain ⟨h9, -, -⟩ := hl
  have h10 : k = 0 ∨ k = 1 ∨ k = 2 ∨ k = 3 ∨ k = 4 ∨ k = 5 ∨ k = 6 ∨ k = 7 ∨ k = 8 := by omega
  clear h9
  rcases h10 with rfl | rfl | rfl | rfl | rfl | rfl | rfl | rfl | rfl
  · rw [cD_o (by decide), cD_o (by decide), cC_0, cC_0, st_nf τ n v (f := 54) (g := 1) (by decide)]
  · have hj : n' ≠ n := fun z => hne ⟨rfl, z⟩; rw [cD_o (by decide), cD_o (by decide), cC_1, cC_1, st_nj τ 54 v hj, st_nf τ n v (f := 54) (g := 52) (by decide)]
  · rw [cD_2, cD_2]
  · rw [cD_o (by decide), cD_o (by decide), cC_3, cC_3, st_nf τ n v (f := 54) (g := 48) (by decide)]
  · rw [cD_o (by decide), cD_o (by decide), cC_4, cC_4, st_nf τ n v (f := 54) (g := 3) (by decide), st_nf τ n v (f := 54) (g := 4) (by decide), st_nf τ n v (f := 54) (g := 5) (by decide), st_nf τ n v (f := 54) (g := 6) (by decide), st_nf τ n v (f := 54) (g := 7) (by decide), st_nf τ n v (f := 54) (g := 8) (by decide), st_nf τ n v (f := 54) (g := 9) (by decide), st_nf τ n v (f := 54) (g := 10) (by decide), st_nf τ n v (f := 54) (g := 11) (by decide)]
  · rw [cD_o (by decide), cD_o (by decide), cC_5, cC_5, st_nf τ n v (f := 54) (g := 13) (by decide), st_nf τ n v (f := 54) (g := 14) (by decide), st_nf τ n v (f := 54) (g := 15) (by decide), st_nf τ n v (f := 54) (g := 16) (by decide), st_nf τ n v (f := 54) (g := 17) (by decide), st_nf τ n v (f := 54) (g := 18) (by decide), st_nf τ n v (f := 54) (g := 19) (by decide), st_nf τ n v (f := 54) (g := 20) (by decide)]
  · rw [cD_o (by decide), cD_o (by decide), cC_6, cC_6, st_nf τ n v (f := 54) (g := 23) (by decide), st_nf τ n v (f := 54) (g := 24) (by decide), st_nf τ n v (f := 54) (g := 25) (by decide), st_nf τ n v (f := 54) (g := 26) (by decide), st_nf τ n v (f := 54) (g := 27) (by decide), st_nf τ n v (f := 54) (g := 28) (by decide), st_nf τ n v (f := 54) (g := 50) (by decide), st_nf τ n v (f := 54) (g := 51) (by decide), st_nf τ n v (f := 54) (g := 22) (by decide), st_nf τ n v (f := 54) (g := 29) (by decide), st_nf τ n v (f := 54) (g := 31) (by decide)]
  · rw [cD_o (by decide), cD_o (by decide), cC_7, cC_7, st_nf τ n v (f := 54) (g := 32) (by decide), st_nf τ n v (f := 54) (g := 33) (by decide)]
  · rw [cD_o (by decide), cD_o (by decide), cC_8, cC_8, st_nf τ n v (f := 54) (g := 55) (by decide), st_nf τ n v (f := 54) (g := 36) (by decide), st_nf τ n v (f := 54) (g := 37) (by decide), st_nf τ n v (f := 54) (g := 38) (by decide), st_nf τ n v (f := 54) (g := 39) (by decide), st_nf τ n v (f := 54) (g := 40) (by decide), st_nf τ n v (f := 54) (g := 41) (by decide), st_nf τ n v (f := 54) (g := 42) (by decide), st_nf τ n v (f := 54) (g := 35) (by decide), st_nf τ n v (f := 54) (g := 44) (by decide), st_nf τ n v (f := 54) (g := 43) (by decide), st_nf τ n v (f := 54) (g := 45) (by decide)]
section KLR
variable {p : Program} {l : Launch} {e : Env} {R : Room} {s : State} {m : MethodId} {args : Array Value} {below : List Frame} {meth : Method} {c : Code} {H : Heap} {locs : List Loc} {cells slots : Nat} {Q : State → Prop}
variable {cc : ByteArray} {pc : Nat} {ls : Array Slot} {rest : List Value} {D : va_G} {A : Nat → Prop} {H0 : Heap} {Ts : List Cond} {own : String} {idx : Nat} {cI cO : ClassId} {g : Gh} {cap N : Nat → Nat} {rw : Nat → Nat → Option Nat} {τ : St}
theorem lg_size (E : kE p c cc s m args Ts own D cI cO) (hin : ∀ w ∈ wsJx4a65c0, w ∈ Ts) (hQ : cQ D cI cO A g cap N rw τ H) {q : Nat} (he : lv N cap 1 q) (hl : Cond.fieldLink own idx "java/util/ArrayList" "size" "I" ∈ Ts) (hdg : decode cc pc = .ok (.getfield idx, 3)) (kk : W p l e R s m args below meth c H locs cells slots Q (F0 m (pc + 3) ls (.int (τ 54 q) :: rest))) : W p l e R s m args below meth c H locs cells slots Q (F0 m pc ls (.ref (g 1 q) :: rest)) := by
  have h1 := (hQ.1 1 q he).1
  rw [cD_o (by decide), cC_1] at h1
  exact va_get (D := D) (ci := 2) (v := .int (τ 54 q)) (C := RJx4a65c) (T := TJx4a65c) (N := 3) E.1.1 E.1.2 E.2.1 hin E.2.2.1 E.2.2.2 (one_P h1) 0 rfl rfl 2 (by decide) (E.2.1 _ hl) (fun _ h9 => h9) rfl hdg kk
theorem lg_elem (E : kE p c cc s m args Ts own D cI cO) (hin : ∀ w ∈ wsJx4a65c0, w ∈ Ts) (hQ : cQ D cI cO A g cap N rw τ H) {q : Nat} (he : lv N cap 1 q) (hl : Cond.fieldLink own idx "java/util/ArrayList" "elementData" "[Ljava/lang/Object;" ∈ Ts) (hdg : decode cc pc = .ok (.getfield idx, 3)) (kk : W p l e R s m args below meth c H locs cells slots Q (F0 m (pc + 3) ls (.ref (g 2 q) :: rest))) : W p l e R s m args below meth c H locs cells slots Q (F0 m pc ls (.ref (g 1 q) :: rest)) := by
  have h1 := (hQ.1 1 q he).1
  rw [cD_o (by decide), cC_1] at h1
  exact va_get (D := D) (ci := 2) (v := .ref (g 2 q)) (C := RJx4a65c) (T := TJx4a65c) (N := 3) E.1.1 E.1.2 E.2.1 hin E.2.2.1 E.2.2.2 (one_P h1) 0 rfl rfl 1 (by decide) (E.2.1 _ hl) (fun _ h9 => h9) rfl hdg kk
theorem lg_modC (E : kE p c cc s m args Ts own D cI cO) (hin : ∀ w ∈ wsJx4a65c0, w ∈ Ts) (hQ : cQ D cI cO A g cap N rw τ H) {q : Nat} (he : lv N cap 1 q) (hsm : Cond.sameField "java/util/ArrayList" "java/util/AbstractList" "modCount" "I" ∈ Ts) (hl : Cond.fieldLink own idx "java/util/ArrayList" "modCount" "I" ∈ Ts) (hdg : decode cc pc = .ok (.getfield idx, 3)) (kk : W p l e R s m args below meth c H locs cells slots Q (F0 m (pc + 3) ls (.int (τ 52 q) :: rest))) : W p l e R s m args below meth c H locs cells slots Q (F0 m pc ls (.ref (g 1 q) :: rest)) := by
  have h1 := (hQ.1 1 q he).1
  rw [cD_o (by decide), cC_1] at h1
  exact va_get (D := D) (ci := 2) (v := .int (τ 52 q)) (C := RJx4a65c) (T := TJx4a65c) (N := 3) E.1.1 E.1.2 E.2.1 hin E.2.2.1 E.2.2.2 (one_P h1) 0 rfl rfl 0 (by decide) (E.2.1 _ hl) (u_same (E.2.1 _ hsm)) rfl hdg kk
theorem lp_size (E : kE p c cc s m args Ts own D cI cO) (hin : ∀ w ∈ wsJx4a65c0, w ∈ Ts) (hQ : cQ D cI cO A g cap N rw τ H) (hS : va_S A H0 H locs) {q : Nat} (he : lv N cap 1 q) {x : Int32} (hl : Cond.fieldLink own idx "java/util/ArrayList" "size" "I" ∈ Ts) (hdg : decode cc pc = .ok (.putfield idx, 3)) (kk : ∀ (H1 : Heap) (locs1 : List Loc), cQ D cI cO A g cap N rw (st τ 54 q x) H1 → va_S A H0 H1 locs1 → W p l e R s m args below meth c H1 locs1 cells slots Q (F0 m (pc + 3) ls rest)) : W p l e R s m args below meth c H locs cells slots Q (F0 m pc ls (.int x :: .ref (g 1 q) :: rest)) := by
  have h1 := (hQ.1 1 q he).1
  rw [cD_o (by decide), cC_1] at h1
  refine ca_put (D := D) (cl := vwCl) (ci := 2) (v := .int x) (ty := .int) (C := RJx4a65c) (T := TJx4a65c) (M := 3) E.1.1 E.1.2 E.2.1 hin tyJx4a65c tyJx4a65c_ok nmJx4a65c E.2.2.1 E.2.2.2 h1 hS (hQ.1 1 q he).2 rfl 2 (by decide) (E.2.1 _ hl) (fun _ h9 => h9) rfl (by decide +kernel) rfl rfl (Nat.le_of_ble_eq_true rfl) hdg (fun H1 locs1 h1 h2 h3 => ?_)
  refine kk H1 locs1 (cQ_set hQ he ?_ h2 cds_54) h3
  rw [cD_o (by decide), cC_1, st_self, st_nf τ q x (f := 54) (g := 52) (by decide)]; exact h1
theorem lp_modC (E : kE p c cc s m args Ts own D cI cO) (hin : ∀ w ∈ wsJx4a65c0, w ∈ Ts) (hQ : cQ D cI cO A g cap N rw τ H) (hS : va_S A H0 H locs) {q : Nat} (he : lv N cap 1 q) (hsm : Cond.sameField "java/util/ArrayList" "java/util/AbstractList" "modCount" "I" ∈ Ts) {x : Int32} (hl : Cond.fieldLink own idx "java/util/ArrayList" "modCount" "I" ∈ Ts) (hdg : decode cc pc = .ok (.putfield idx, 3)) (kk : ∀ (H1 : Heap) (locs1 : List Loc), cQ D cI cO A g cap N rw (st τ 52 q x) H1 → va_S A H0 H1 locs1 → W p l e R s m args below meth c H1 locs1 cells slots Q (F0 m (pc + 3) ls rest)) : W p l e R s m args below meth c H locs cells slots Q (F0 m pc ls (.int x :: .ref (g 1 q) :: rest)) := by
  have h1 := (hQ.1 1 q he).1
  rw [cD_o (by decide), cC_1] at h1
  refine ca_put (D := D) (cl := vwCl) (ci := 2) (v := .int x) (ty := .int) (C := RJx4a65c) (T := TJx4a65c) (M := 3) E.1.1 E.1.2 E.2.1 hin tyJx4a65c tyJx4a65c_ok nmJx4a65c E.2.2.1 E.2.2.2 h1 hS (hQ.1 1 q he).2 rfl 0 (by decide) (E.2.1 _ hl) (u_same (E.2.1 _ hsm)) rfl (by decide +kernel) rfl rfl (Nat.le_of_ble_eq_true rfl) hdg (fun H1 locs1 h1 h2 h3 => ?_)
  refine kk H1 locs1 (cQ_set hQ he ?_ h2 cds_52) h3
  rw [cD_o (by decide), cC_1, st_self, st_nf τ q x (f := 52) (g := 54) (by decide)]; exact h1
theorem lp_elem (E : kE p c cc s m args Ts own D cI cO) (hin : ∀ w ∈ wsJx4a65c0, w ∈ Ts) (hQ : cQ D cI cO A g cap N rw τ H) (hS : va_S A H0 H locs) {q r nn : Nat} {f : Nat → Option Nat} (he : lv N cap 1 q) (hN : N 2 = N 1) (h0 : 0 < nn) (hr : va_at D vwCl (r, rE cO nn f) H) (hAr : A r) (hfr : ∀ k n, lv N cap k n → g k n ≠ r) (hl : Cond.fieldLink own idx "java/util/ArrayList" "elementData" "[Ljava/lang/Object;" ∈ Ts) (hdg : decode cc pc = .ok (.putfield idx, 3)) (kk : ∀ (H1 : Heap) (locs1 : List Loc), cQ D cI cO A (gq g q r) (cq cap q nn) N (ru rw q f) τ H1 → va_S A H0 H1 locs1 → W p l e R s m args below meth c H1 locs1 cells slots Q (F0 m (pc + 3) ls rest)) : W p l e R s m args below meth c H locs cells slots Q (F0 m pc ls (.ref r :: .ref (g 1 q) :: rest)) := by
  have h1 := (hQ.1 1 q he).1
  rw [cD_o (by decide), cC_1] at h1
  refine ca_put (D := D) (cl := vwCl) (ci := 2) (v := .ref r) (ty := .array (.object "java/lang/Object")) (C := RJx4a65c) (T := TJx4a65c) (M := 3) E.1.1 E.1.2 E.2.1 hin tyJx4a65c tyJx4a65c_ok nmJx4a65c E.2.2.1 E.2.2.2 h1 hS (hQ.1 1 q he).2 rfl 1 (by decide) (E.2.1 _ hl) (fun _ h9 => h9) rfl (by decide +kernel) rfl rfl (Nat.le_of_ble_eq_true rfl) hdg (fun H1 locs1 h1 h2 h3 => ?_)
  refine kk H1 locs1 ⟨fun k n hl => ?_, fun k n k' n' hl hl' hg => ?_⟩ h3
  · by_cases hk : k = 2
    · subst hk
      rw [gq_2, cD_2]
      unfold cq ru
      by_cases hn : n = q
      · subst hn
        rw [if_pos rfl, if_pos rfl, if_pos rfl]
        exact ⟨hr.kept (h2 _ (fun z => hfr 1 n he z.symm)), hAr⟩
      · rw [if_neg hn, if_neg hn, if_neg hn]
        have hlo : lv N cap 2 n := ⟨hl.1, hl.2.1, fun _ => by have := hl.2.2 rfl; unfold cq at this; rwa [if_neg hn] at this⟩
        have h5 := hQ.1 2 n hlo
        rw [cD_2] at h5
        exact ⟨h5.1.kept (h2 _ (fun z => absurd (hQ.2 _ _ _ _ hlo he z).1 (by decide))), h5.2⟩
    · rw [gq_o hk, cD_o hk]
      have hlo : lv N cap k n := ⟨hl.1, hl.2.1, fun z => absurd z hk⟩
      have h5 := hQ.1 k n hlo
      by_cases hq : k = 1 ∧ n = q
      · obtain ⟨rfl, rfl⟩ := hq
        rw [cC_1, gq_2, if_pos rfl]
        exact ⟨h1, h5.2⟩
      · rw [cC_gq hk hl.1 hq]
        rw [cD_o hk] at h5
        exact ⟨h5.1.kept (h2 _ (fun z => hq (hQ.2 _ _ _ _ hlo he z))), h5.2⟩
  · have key : ∀ k n, lv N (cq cap q nn) k n → ¬ (k = 2 ∧ n = q) → lv N cap k n ∧ gq g q r k n = g k n := by
      intro k n hl hne
      by_cases hk : k = 2
      · subst hk
        have hn : n ≠ q := fun z => hne ⟨rfl, z⟩
        exact ⟨⟨hl.1, hl.2.1, fun _ => by have := hl.2.2 rfl; unfold cq at this; rwa [if_neg hn] at this⟩, by rw [gq_2, if_neg hn]⟩
      · exact ⟨⟨hl.1, hl.2.1, fun z => absurd z hk⟩, gq_o hk⟩
    by_cases ha : k = 2 ∧ n = q
    · obtain ⟨rfl, rfl⟩ := ha
      by_cases hb : k' = 2 ∧ n' = n
      · obtain ⟨rfl, rfl⟩ := hb; exact ⟨rfl, rfl⟩
      · obtain ⟨l2, e2⟩ := key k' n' hl' hb
        rw [gq_2, if_pos rfl, e2] at hg
        exact absurd hg.symm (hfr _ _ l2)
    · obtain ⟨l1, e1⟩ := key k n hl ha
      by_cases hb : k' = 2 ∧ n' = q
      · obtain ⟨rfl, rfl⟩ := hb
        rw [gq_2, if_pos rfl, e1] at hg
        exact absurd hg (hfr _ _ l1)
      · obtain ⟨l2, e2⟩ := key k' n' hl' hb
        rw [e1, e2] at hg
        exact hQ.2 _ _ _ _ l1 l2 hg
theorem lq_len (E : kE p c cc s m args Ts own D cI cO) (hQ : cQ D cI cO A g cap N rw τ H) {q : Nat} (he : lv N cap 2 q) (hdg : decode cc pc = .ok (.arraylength, 1)) (kk : W p l e R s m args below meth c H locs cells slots Q (F0 m (pc + 1) ls (.int (nI (cap q)) :: rest))) : W p l e R s m args below meth c H locs cells slots Q (F0 m pc ls (.ref (g 2 q) :: rest)) := by
  have h1 := (hQ.1 2 q he).1
  rw [cD_2] at h1
  exact va_alen (D := D) E.1.1 E.1.2 E.2.2.2 (one_P h1) 0 1 rfl rfl rfl hdg kk
theorem lq_lenE (E : kE p c cc s m args Ts own D cI cO) {r n : Nat} {f : Nat → Option Nat} (h1 : va_at D vwCl (r, rE cO n f) H) (hdg : decode cc pc = .ok (.arraylength, 1)) (kk : W p l e R s m args below meth c H locs cells slots Q (F0 m (pc + 1) ls (.int (nI n) :: rest))) : W p l e R s m args below meth c H locs cells slots Q (F0 m pc ls (.ref r :: rest)) := va_alen (D := D) E.1.1 E.1.2 E.2.2.2 (one_P h1) 0 1 rfl rfl rfl hdg kk
/-- a reference stored into a list's array -/
theorem lq_ast (E : kE p c cc s m args Ts own D cI cO) (hQ : cQ D cI cO A g cap N rw τ H) (hS : va_S A H0 H locs) {q : Nat} (he : lv N cap 2 q) {i : Int32} (hi : vp_in i (cap q)) {v : Nat} {C : String} (hv : ∃ cell : Cell, H[v]? = some cell ∧ cell.vm.isStatics = false ∧ s.vm.findClass C = some cell.cls) (hca : va_Nw (.castable C "java/lang/Object") s) (hdg : decode cc pc = .ok (.aastore, 1)) (kk : ∀ (H1 : Heap) (locs1 : List Loc), cQ D cI cO A g cap N (ru rw q (va_up (rw q) i.toNatClampNeg (some v))) τ H1 → va_S A H0 H1 locs1 → W p l e R s m args below meth c H1 locs1 cells slots Q (F0 m (pc + 1) ls rest)) : W p l e R s m args below meth c H locs cells slots Q (F0 m pc ls (.ref v :: .int i :: .ref (g 2 q) :: rest)) := by
  have h1 := (hQ.1 2 q he).1
  rw [cD_2] at h1
  have hcell : H[g 2 q]? = some (vp_cell cO (cap q, .inr (.inr (.inr (.inr (rw q)))))) := h1
  have hlt := vp_lt hi
  obtain ⟨cv, v1, v2, v3⟩ := hv
  obtain ⟨kA, comp, r1, r2, r3, -⟩ := (E.2.2.2.2 1 _ rfl).2
  obtain ⟨kE, hkE, -⟩ := Vm.findClass_spec r3
  obtain ⟨kC, hkC, -⟩ := Vm.findClass_spec v3
  refine W.aast E.1.1 E.1.2 hcell (fun q h => by cases h) (fun h => by cases h) r1 r2 rfl hkE ⟨fun z => hi (Or.inl z), by show _ < (arrV _ _ _).slots.size; rw [arrV_size]; exact hlt⟩ v1 (fun q h => by rw [h] at v2; cases v2) hkC (vb_asgC hca _ _ r3 v3) rfl rfl hdg fun H1 e z oq => ?_
  refine kk H1 _ (cQ_set hQ he ?_ oq (fun k' n' hl hne => ?_)) (hS.put z oq (hQ.1 2 q he).2)
  · rw [cD_2]
    show H1[g 2 q]? = some (vp_cell cO (cap q, .inr (.inr (.inr (.inr (ru rw q _ q))))))
    rw [e, vp_cell_q, vp_cell_q, arrV_store]
    congr 2
    funext j
    unfold ru
    rw [if_pos rfl]
    by_cases hj : j = i.toNatClampNeg
    · subst hj; simp [updV, va_up, va_rf]
    · simp [updV, va_up, hj]
  · by_cases hk : k' = 2
    · subst hk
      rw [cD_2, cD_2]
      unfold ru
      rw [if_neg (fun z => hne ⟨rfl, z⟩)]
    · rw [cD_o hk, cD_o hk]
/-- an array of references made -/
theorem lq_new (E : kE p c cc s m args Ts own D cI cO) (hQ : cQ D cI cO A g cap N rw τ H) (hS : va_S A H0 H locs) (hAO : va_AO "java/lang/Object" s) (hA : ∀ q, H0.size ≤ q → A q) {n : Int32} {n' : Nat} (hn : ¬ n < 0) (hn' : n.toNatClampNeg = n') (hb4 : n' * 4 ≤ 536870912) (hc : cells + 1 ≤ R.cells) (hs : slots + n' ≤ R.slots) (hl : Cond.classLink own idx "java/lang/Object" ∈ Ts) (hdg : decode cc pc = .ok (.anewarray idx, 3)) (kk : ∀ (r : Nat) (H1 : Heap), cQ D cI cO A g cap N rw τ H1 → (∀ q, q < H.size → H1[q]? = H[q]?) → va_at D vwCl (r, rE cO n' (fun _ => none)) H1 → A r → (∀ k n, lv N cap k n → g k n ≠ r) → r = H.size → va_S A H0 H1 locs → W p l e R s m args below meth c H1 locs (cells + 1) (slots + n') Q (F0 m (pc + 3) ls (.ref r :: rest))) : W p l e R s m args below meth c H locs cells slots Q (F0 m pc ls (.int n :: rest)) := by
  subst hn'
  refine W.anew E.1.1 E.1.2 E.2.2.1 (E.2.1 _ hl) (va_AO.use hAO) rfl hdg rfl hn hb4 hc hs fun cA kA comp f1 f2 f3 f4 => ?_
  obtain ⟨-, -, -, -, -, r4⟩ := (E.2.2.2.2 1 _ rfl).2
  have hcA : cA = cO := Option.some.inj (f1.symm.trans r4)
  subst hcA
  have o1 : ∀ q : Nat, q < H.size → (H.push ({ cls := cA, slots := Array.replicate n.toNatClampNeg .null, vm := .none } : Cell))[q]? = H[q]? := fun q hq => by rw [Array.getElem?_push, if_neg (Nat.ne_of_lt hq)]
  refine kk H.size _ (cQ_kept hQ (fun k n' hl => o1 _ (hQ.1 k n' hl).1.lt)) o1 ?_ (hA _ hS.1) (fun k n' hl z => by have := (hQ.1 k n' hl).1.lt; omega) rfl ⟨Nat.le_trans hS.1 (by rw [Array.size_push]; omega), fun x h1 h2 => (o1 x (Nat.lt_of_lt_of_le h1 hS.1)).trans (hS.2.1 x h1 h2), hS.2.2⟩
  show _ = some (vp_cell cA (n.toNatClampNeg, .inr (.inr (.inr (.inr (fun _ => none))))))
  rw [Array.getElem?_push_size, vp_cell_q]
  exact congrArg some (arrV_new _ _ _)
end KLR
