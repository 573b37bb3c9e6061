/-! the world behind the making of a pier, a boat or a booking, and its list's growing -/
theorem cP_kept2 {D : va_G} {cI cO : ClassId} {A : Nat → Prop} {g : Gh} {cap N : Nat → Nat} {τ : St} {H H1 : Heap} (h : cP D cI cO A g cap N τ H) (oq : ∀ k n, lv N cap k n → H1[g k n]? = H[g k n]?) : cP D cI cO A g cap N τ H1 :=
  ⟨fun k n hl => ⟨(h.1 k n hl).1.kept (oq k n hl), (h.1 k n hl).2⟩, h.2⟩
theorem vp_up {x : Int32} {n m : Nat} (h : vp_in x n) (hm : n ≤ m) : vp_in x m := fun z => h (z.elim Or.inl (fun w => Or.inr (Nat.le_trans hm w)))
/-- which list a kind's objects are in -/
def lof (k : Nat) : Nat := if k = 4 then 0 else if k = 5 then 1 else 3
theorem KI_mk {cap cap1 N : Nat → Nat} {τ : St} {k : Nat} (hk : k = 4 ∨ k = 5 ∨ k = 8) (hK : KI cap N τ) (hN : KN (Nn N k)) (hle : ∀ j, cap j ≤ cap1 j) (hlt : N k < cap1 (lof k)) (h8 : k = 8 → vp_in (τ 36 (N 8)) (N 6)) : KI cap1 (Nn N k) (st (st τ 52 (lof k) (τ 52 (lof k) + 1)) 54 (lof k) (nI (N k + 1))) := by
  obtain ⟨h1, h2, h3, h4, h5, h6⟩ := hK
  obtain ⟨n0, n4, n5, n6, n8, n7, n1, n2, n3⟩ := id h1
  have e : ∀ f, f ≠ 52 → f ≠ 54 → st (st τ 52 (lof k) (τ 52 (lof k) + 1)) 54 (lof k) (nI (N k + 1)) f = τ f := fun f a b => by rw [st_nf _ _ _ b, st_nf _ _ _ a]
  have e54 : ∀ j, st (st τ 52 (lof k) (τ 52 (lof k) + 1)) 54 (lof k) (nI (N k + 1)) 54 j = if j = lof k then nI (N k + 1) else τ 54 j := fun j => by
    by_cases hj : j = lof k
    · rw [if_pos hj, hj, st_self]
    · rw [if_neg hj, st_nj _ _ _ hj, st_nf _ _ _ (show (54 : Nat) ≠ 52 by decide)]
  have hmono : ∀ j, N j ≤ Nn N k j := fun j => by
    by_cases hj : j = k
    · subst hj; rw [Nn_s]; omega
    · rw [Nn_o hj]; exact Nat.le_refl _
  have hsz : Nn N k 1 = N 1 := Nn_o (by omega)
  unfold KI
  rw [e54, e54, e54, e54, e 23 (by decide) (by decide), e 24 (by decide) (by decide), e 25 (by decide) (by decide), e 36 (by decide) (by decide), e 20 (by decide) (by decide), e 41 (by decide) (by decide)]
  refine ⟨hN, ?_, fun n hn => ?_, fun n hn => ?_, h5, fun q hq => ?_⟩
  · rcases hk with rfl | rfl | rfl
    · exact ⟨by rw [if_pos (show 0 = lof 4 from rfl), Nn_s], by rw [if_neg (by decide), Nn_o (by decide)]; exact h2.2.1, by rw [if_neg (by decide), Nn_o (by decide)]; exact h2.2.2.1, by rw [if_neg (by decide), Nn_o (by decide)]; exact h2.2.2.2⟩
    · exact ⟨by rw [if_neg (by decide), Nn_o (by decide)]; exact h2.1, by rw [if_pos (show 1 = lof 5 from rfl), Nn_s], by rw [if_neg (by decide), Nn_o (by decide)]; exact h2.2.2.1, by rw [if_neg (by decide), Nn_o (by decide)]; exact h2.2.2.2⟩
    · exact ⟨by rw [if_neg (by decide), Nn_o (by decide)]; exact h2.1, by rw [if_neg (by decide), Nn_o (by decide)]; exact h2.2.1, by rw [if_neg (by decide), Nn_o (by decide)]; exact h2.2.2.1, by rw [if_pos (show 3 = lof 8 from rfl), Nn_s]⟩
  · rw [Nn_o (show 6 ≠ k by omega)] at hn
    obtain ⟨a, b, c⟩ := h3 n hn
    exact ⟨vp_up a (hmono 5), vp_up b (hmono 4), vp_up c (hmono 4)⟩
  · by_cases hn8 : n < N 8
    · exact vp_up (h4 n hn8) (hmono 6)
    · by_cases k8 : k = 8
      · have : n = N 8 := by rw [k8, Nn_s] at hn; omega
        rw [this]; exact vp_up (h8 k8) (hmono 6)
      · rw [Nn_o (show 8 ≠ k by omega)] at hn; exact absurd hn hn8
  · rw [hsz] at hq
    obtain ⟨C, a, b, c, d⟩ := h6 q hq
    unfold KL
    rw [e54, e (100 + q) (by omega) (by omega)]
    by_cases hql : q = lof k
    · subst hql
      have hkN : N k + 1 ≤ 100 := by
        rcases hk with rfl | rfl | rfl
        · have := hN.2.1; rw [Nn_s] at this; omega
        · have := hN.2.2.1; rw [Nn_s] at this; omega
        · have := hN.2.2.2.2.1; rw [Nn_s] at this; omega
      refine ⟨N k + 1, if_pos rfl, hlt, hkN, fun h4q => ?_⟩
      exfalso
      unfold lof at h4q
      rcases hk with rfl | rfl | rfl <;> simp at h4q
    · rw [if_neg hql]
      exact ⟨C, a, Nat.le_trans b (hle q), c, fun h4q i hi => vp_up (d h4q i hi) (hmono 8)⟩
theorem ek_lof {k : Nat} (hk : k = 4 ∨ k = 5 ∨ k = 8) : ek (lof k) = k := by rcases hk with rfl | rfl | rfl <;> rfl
theorem lof_4 (k : Nat) : lof k < 4 := by
  unfold lof
  by_cases h : k = 4
  · rw [if_pos h]; decide
  · rw [if_neg h]
    by_cases h2 : k = 5
    · rw [if_pos h2]; decide
    · rw [if_neg h2]; decide
theorem cG_mk {D : va_G} {cI cO : ClassId} {A : Nat → Prop} {aE : Nat} {g g1 : Gh} {a cap cap1 N : Nat → Nat} {τ : St} {H : Heap} {k r : Nat} (hk : k = 4 ∨ k = 5 ∨ k = 8) (hGI : GI aE N cap a) (hK : KI cap N τ) (hN : KN (Nn N k)) (h8 : k = 8 → vp_in (τ 36 (N 8)) (N 6)) (hG : GC (gn1 (gw g a) k (N k) r) cap (lof k) g1 cap1) (hlt : N k < cap1 (lof k))
    (hQ : cQ D cI cO A g1 cap1 (Nn N k) (ru (crow (gn1 (gw g a) k (N k) r) τ) (lof k) (va_up (crow (gn1 (gw g a) k (N k) r) τ (lof k)) (N k) (some r))) (st (st τ 52 (lof k) (τ 52 (lof k) + 1)) 54 (lof k) (nI (N k + 1))) H) : cG D cI cO A aE (gn1 g k (N k) r) (Nn N k) (st (st τ 52 (lof k) (τ 52 (lof k) + 1)) 54 (lof k) (nI (N k + 1))) H := by
  have hle : ∀ j, cap j ≤ cap1 j := fun j => by
    by_cases hj : j = lof k
    · subst hj; exact hG.2.2.1
    · rw [(hG.2.1 j hj).2]; exact Nat.le_refl _
  have hgg : ∀ k' n, k' ≠ 2 → g1 k' n = gn1 g k (N k) r k' n := fun k' n h2 => (hG.1 k' n h2).trans (by
    by_cases e : k' = k ∧ n = N k
    · obtain ⟨rfl, rfl⟩ := e; rw [gn1_s, gn1_s]
    · rw [gn1_o e, gn1_o e, gw_o h2])
  have hg2 : ∀ n, gn1 (gw g a) k (N k) r 2 n = a n := fun n => gn1_o (by omega)
  have hsz : Nn N k 1 = N 1 := Nn_o (by omega)
  have hC : τ 54 (lof k) = nI (N k) := by
    rcases hk with rfl | rfl | rfl
    · exact hK.2.1.1
    · exact hK.2.1.2.1
    · exact hK.2.1.2.2.2
  have hkN : N k + 1 ≤ 100 := by
    rcases hk with rfl | rfl | rfl
    · have := hN.2.1; rw [Nn_s] at this; omega
    · have := hN.2.2.1; rw [Nn_s] at this; omega
    · have := hN.2.2.2.2.1; rw [Nn_s] at this; omega
  refine ⟨g1 2, cap1, ⟨fun j hj h0 => ?_, fun j hj => ?_⟩, KI_mk hk hK hN hle hlt h8, ?_⟩
  · by_cases e : j = lof k
    · subst e; omega
    · rw [(hG.2.1 j e).1, hg2]
      rw [(hG.2.1 j e).2] at h0
      exact hGI.1 j (by rw [hsz] at hj; exact hj) h0
  · by_cases e : j = lof k
    · subst e; exact hG.2.2.2.2
    · rw [(hG.2.1 j e).2]; exact hGI.2 j (by rw [hsz] at hj; exact hj)
  · rw [← gw_of hgg]
    refine cQ_to hQ (fun q hq h0 => ?_)
    unfold ru
    by_cases e : q = lof k
    · subst e
      rw [if_pos rfl]
      funext i
      unfold crow cn va_up
      dsimp only
      rw [st_self, hC, nI_clamp (by omega), nI_clamp (by omega), if_pos (lof_4 k), ek_lof hk]
      by_cases i1 : i = N k
      · rw [if_pos i1, if_pos (show i < N k + 1 by omega), if_pos (lof_4 k), hgg k i (by omega), i1, gn1_s]
      · rw [if_neg i1]
        by_cases i2 : i < N k
        · rw [if_pos i2, if_pos (show i < N k + 1 by omega), if_pos (lof_4 k), hG.1 k i (by omega)]
        · rw [if_neg i2, if_neg (show ¬ i < N k + 1 by omega)]
    · rw [if_neg e]
      funext i
      unfold crow cn
      rw [st_nj _ _ _ e, st_nf _ _ _ (show (54 : Nat) ≠ 52 by decide), st_nf _ _ _ (show 100 + q ≠ 54 by omega), st_nf _ _ _ (show 100 + q ≠ 52 by omega), hG.1 _ _ (ek_2 q)]
