/-! THE LAW: the two first states -/
def N0 : Nat → Nat := fun k => if k = 0 then 1 else if k = 1 then 4 else if k = 2 then 4 else if k = 3 then 1 else 0
def g0 (r q1 q2 q3 q4 q5 : Nat) : Gh := fun k n => if k = 0 then r else if k = 1 then (if n = 0 then q1 else if n = 1 then q2 else if n = 2 then q3 else q4) else q5
theorem KN_0 : KN N0 := by unfold KN N0; decide
theorem KI_0 : KI (fun _ => 0) N0 m0 := by
  refine ⟨KN_0, ⟨rfl, rfl, rfl, rfl⟩, fun n hn => ?_, fun n hn => ?_, fun n => ⟨isB0, isB0⟩, fun q _ => ⟨0, rfl, Nat.le_refl _, Nat.zero_le _, fun _ i hi => absurd hi (Nat.not_lt_zero i)⟩⟩
  · exact absurd hn (Nat.not_lt_zero n)
  · exact absurd hn (Nat.not_lt_zero n)
theorem RF_0 : RF N0 0 m0 m0 := by
  have v : ∀ {P : Prop} (n : Nat), n < 0 → P := fun n hn => absurd hn (Nat.not_lt_zero n)
  exact ⟨⟨EQ_rf, ⟨⟨rfl, rfl, rfl, rfl⟩, ⟨rfl, rfl, rfl, rfl⟩, by decide, by decide, by decide, by decide⟩, fun n hn => v n hn, fun b hb => v b hb, ⟨fun b hb => v b hb, fun n hn => v n hn, fun b hb => v b hb, fun b => (show ¬ (0 : Int32) < 0 by decide)⟩, fun n hn => v n hn, ⟨fun n _ => ⟨rfl, rfl, rfl, rfl, rfl⟩, fun n _ => rfl, fun n _ => ⟨rfl, rfl, rfl, rfl⟩, fun n _ => ⟨rfl, rfl⟩, fun n _ => ⟨rfl, rfl, rfl⟩⟩⟩, fun n hn => v n hn, rfl⟩
theorem MI_0 : MI m0 := by
  have r0 : ∀ n : Nat, rng 0 n := fun n => ⟨0, Nat.zero_le n, rfl⟩
  exact ⟨⟨r0 8, r0 6, r0 60, r0 100⟩, fun k => (show ¬ ((0 : Int32) < 0 ∨ 6 ≤ (0 : Int32).toNatClampNeg) by decide), fun k => (show ¬ ((0 : Int32) < 0 ∨ 8 ≤ (0 : Int32).toNatClampNeg) by decide), fun k => (show ¬ ((0 : Int32) < 0 ∨ 8 ≤ (0 : Int32).toNatClampNeg) by decide), fun k => (show ¬ ((0 : Int32) < 0 ∨ 60 ≤ (0 : Int32).toNatClampNeg) by decide), fun k => (show ¬ ((0 : Int32) < 0 ∨ 3 ≤ (0 : Int32).toNatClampNeg) by decide), fun k => isB0, fun k => isB0, fun k => isB0, fun k => isB0, fun k => isB0⟩
theorem lR_0 : lR N0 0 m0 m0 := ⟨RF_0, MI_0, fun n => Or.inl rfl⟩
theorem lv_0 {k n : Nat} (h : lv N0 (fun _ => 0) k n) : (k = 0 ∧ n = 0) ∨ (k = 1 ∧ (n = 0 ∨ n = 1 ∨ n = 2 ∨ n = 3)) ∨ (k = 3 ∧ n = 0) := by
  obtain ⟨h1, h2, h3⟩ := h
  unfold N0 at h2
  by_cases k0 : k = 0
  · rw [if_pos k0] at h2; omega
  · rw [if_neg k0] at h2
    by_cases k1 : k = 1
    · rw [if_pos k1] at h2; omega
    · rw [if_neg k1] at h2
      by_cases k2 : k = 2
      · exact absurd (h3 k2) (Nat.lt_irrefl 0)
      · rw [if_neg k2] at h2
        by_cases k3 : k = 3
        · rw [if_pos k3] at h2; omega
        · rw [if_neg k3] at h2; omega
def ix (k n : Nat) : Nat := if k = 0 then 0 else if k = 1 then n + 1 else 5
theorem ws_0 {cI cO : ClassId} {aE r q1 q2 q3 q4 q5 k n : Nat} (h : lv N0 (fun _ => 0) k n) : ([(r, .inr (8, [.ref q1, .ref q2, .ref q3, .ref q4, .ref q5, .int (0 : Int32)])), (q1, .inr (2, [.int (0 : Int32), .ref aE, .int 0])), (q2, .inr (2, [.int (0 : Int32), .ref aE, .int 0])), (q3, .inr (2, [.int (0 : Int32), .ref aE, .int 0])), (q4, .inr (2, [.int (0 : Int32), .ref aE, .int 0])), (q5, .inl (cI, 3, .inl (upd (upd (upd (fun _ => (0 : Int32)) 0 (100 : Int32)) 1 (100 : Int32)) 2 (100 : Int32))))] : va_W)[ix k n]? = some (gw (g0 r q1 q2 q3 q4 q5) (fun _ => aE) k n, cC cI cO (gw (g0 r q1 q2 q3 q4 q5) (fun _ => aE)) (fun _ => 0) m0 k n) := by
  rcases lv_0 h with ⟨rfl, rfl⟩ | ⟨rfl, rfl | rfl | rfl | rfl⟩ | ⟨rfl, rfl⟩ <;> rfl
theorem cG_0 {D : va_G} {cI cO : ClassId} {A : Nat → Prop} {aE r q1 q2 q3 q4 q5 : Nat} {H : Heap} {B : Nat → Prop} (hP : va_P D vwCl [(r, .inr (8, [.ref q1, .ref q2, .ref q3, .ref q4, .ref q5, .int (0 : Int32)])), (q1, .inr (2, [.int (0 : Int32), .ref aE, .int 0])), (q2, .inr (2, [.int (0 : Int32), .ref aE, .int 0])), (q3, .inr (2, [.int (0 : Int32), .ref aE, .int 0])), (q4, .inr (2, [.int (0 : Int32), .ref aE, .int 0])), (q5, .inl (cI, 3, .inl (upd (upd (upd (fun _ => (0 : Int32)) 0 (100 : Int32)) 1 (100 : Int32)) 2 (100 : Int32))))] H) (hD : va_D B [(r, .inr (8, [.ref q1, .ref q2, .ref q3, .ref q4, .ref q5, .int (0 : Int32)])), (q1, .inr (2, [.int (0 : Int32), .ref aE, .int 0])), (q2, .inr (2, [.int (0 : Int32), .ref aE, .int 0])), (q3, .inr (2, [.int (0 : Int32), .ref aE, .int 0])), (q4, .inr (2, [.int (0 : Int32), .ref aE, .int 0])), (q5, .inl (cI, 3, .inl (upd (upd (upd (fun _ => (0 : Int32)) 0 (100 : Int32)) 1 (100 : Int32)) 2 (100 : Int32))))]) (hA : ∀ q, q < H.size → B q → A q) : cG D cI cO A aE (g0 r q1 q2 q3 q4 q5) N0 m0 H := by
  refine ⟨fun _ => aE, fun _ => 0, ⟨fun _ _ _ => rfl, fun _ _ => Nat.zero_le _⟩, KI_0, fun k n hl => ?_, fun k n k' n' hl hl' he => ?_⟩
  · have e := ws_0 (cI := cI) (cO := cO) (aE := aE) (r := r) (q1 := q1) (q2 := q2) (q3 := q3) (q4 := q4) (q5 := q5) hl
    have a := hP _ _ e
    exact ⟨a, hA _ a.lt (hD.2 _ _ e)⟩
  · have e := ws_0 (cI := cI) (cO := cO) (aE := aE) (r := r) (q1 := q1) (q2 := q2) (q3 := q3) (q4 := q4) (q5 := q5) hl
    have e' := ws_0 (cI := cI) (cO := cO) (aE := aE) (r := r) (q1 := q1) (q2 := q2) (q3 := q3) (q4 := q4) (q5 := q5) hl'
    have hi := hD.1 _ _ _ _ e e' he
    rcases lv_0 hl with ⟨rfl, rfl⟩ | ⟨rfl, h1⟩ | ⟨rfl, rfl⟩ <;> rcases lv_0 hl' with ⟨rfl, rfl⟩ | ⟨rfl, h2⟩ | ⟨rfl, rfl⟩ <;> simp only [ix] at hi <;> first | exact ⟨rfl, rfl⟩ | (simp at hi; done) | (refine ⟨rfl, ?_⟩; simp at hi; omega) | (simp at hi; omega)
