/-! What the world's rows keep through a turn. -/
theorem Ek_at {h h' : sHp} (hE : Ek h h') {j m : Nat} (h1 : j ≠ 1 ∧ j ≠ 9) : h'.1 j m = h.1 j m := hE.1 j m h1.1 h1.2
theorem Tk_at {g g' : sHp} (hT : Tk g g') {j m : Nat} (h1 : j ≠ 25 ∧ j ≠ 26 ∧ j ≠ 27 ∧ j ≠ 28 ∧ j ≠ 29 ∧ j ≠ 30) (h0 : ¬ (j = 0 ∧ (m = 32 ∨ m = 38 ∨ m = 39 ∨ m = 41))) : g'.1 j m = g.1 j m := hT.1 j m h1.1 h1.2.1 h1.2.2.1 h1.2.2.2.1 h1.2.2.2.2.1 h1.2.2.2.2.2 h0
section KP
variable {h h' g g' : sHp} {mo : Nat → Nat} {R T U K Q : Nat}
theorem WrC_keep (hE : Ek h h') (hT : Tk g g') (hC : WrC h g) : WrC h' g' := by
  intro j hj
  obtain ⟨⟨a1, a2, a3⟩, b1, b2, b3⟩ := hC j hj
  refine ⟨⟨?_, ?_, ?_⟩, ?_, ?_, ?_⟩
  · rw [Ek_at hE (by omega), Tk_at hT (by omega) (by omega)]; exact a1
  · rw [Ek_at hE (by omega), Tk_at hT (by omega) (by omega)]; exact a2
  · rw [Ek_at hE (by omega), Tk_at hT (by omega) (by omega)]; exact a3
  · rw [Ek_at hE (by omega), Tk_at hT (by omega) (by omega)]; exact b1
  · rw [Ek_at hE (by omega), Tk_at hT (by omega) (by omega)]; exact b2
  · rw [Ek_at hE (by omega), Tk_at hT (by omega) (by omega)]; exact b3
theorem WrQ_keep (hE : Ek h h') (hT : Tk g g') {q : Nat} (hQ : WrQ h g mo q) : WrQ h' g' mo q := by
  obtain ⟨⟨a1, a2, a3, a4, a5⟩, ⟨c, c0, c1, c2, c3⟩, d, d0, d1, d2, d3⟩ := hQ
  refine ⟨⟨?_, ?_, ?_, ?_, ?_⟩, ⟨c, c0, ?_, ?_, fun j x y => ?_⟩, d, d0, ?_, ?_, fun j x y => ?_⟩
  · rw [Ek_at hE (by omega), Tk_at hT (by omega) (by omega)]; exact a1
  · rw [Ek_at hE (by omega), Tk_at hT (by omega) (by omega)]; exact a2
  · rw [Ek_at hE (by omega), Tk_at hT (by omega) (by omega)]; exact a3
  · rw [Ek_at hE (by omega), Tk_at hT (by omega) (by omega)]; exact a4
  · rw [Ek_at hE (by omega), Tk_at hT (by omega) (by omega)]; exact a5
  · rw [Ek_at hE (by omega)]; exact c1
  · rw [Tk_at hT (by omega) (by omega)]; exact c2
  · rw [Ek_at hE (by omega), Ek_at hE (by omega)]; exact c3 j x y
  · rw [Ek_at hE (by omega)]; exact d1
  · rw [Tk_at hT (by omega) (by omega)]; exact d2
  · rw [Ek_at hE (by omega), Ek_at hE (by omega), Ek_at hE (by omega)]; exact d3 j x y
theorem WrR_keep (hE : Ek h h') (hT : Tk g g') (hW : WrR h g mo U) : WrR h' g' mo U := by
  obtain ⟨a, b, c, d, e⟩ := hW
  exact ⟨a, by rw [Ek_at hE (by omega)]; exact b, by rw [Tk_at hT (by omega) (by omega)]; exact c, WrC_keep hE hT d, fun q hq => WrQ_keep hE hT (e q hq)⟩
/-- the most of each number, both sides -/
def WrM (h g : sHp) (mo : Nat → Nat) : Prop := ∀ t, t < 3 → mo t < 8 → h.1 15 t = o (mo t) ∧ g.1 5 t = o (mo t)
theorem WrM_keep (hE : Ek h h') (hT : Tk g g') (hM : WrM h g mo) : WrM h' g' mo := fun t a b => ⟨by rw [Ek_at hE (by omega)]; exact (hM t a b).1, by rw [Tk_at hT (by omega) (by omega)]; exact (hM t a b).2⟩
theorem WrW_keep (hE : Ek h h') (hT : Tk g g') (hW : WrW h g R T K) : WrW h' g' R T K := by
  obtain ⟨a, b, c, d⟩ := hW
  refine ⟨a, by rw [Ek_at hE (by omega)]; exact b, by rw [Tk_at hT (by omega) (by omega)]; exact c, fun k hk => ?_⟩
  obtain ⟨⟨t, t0, t1, t2⟩, y⟩ := d k hk
  refine ⟨⟨t, t0, by rw [Ek_at hE (by omega)]; exact t1, by rw [Tk_at hT (by omega) (by omega)]; exact t2⟩, fun j hj => ?_⟩
  obtain ⟨x, x0, x1, x2⟩ := y j hj
  exact ⟨x, x0, by rw [Ek_at hE (by omega)]; exact x1, by rw [Tk_at hT (by omega) (by omega)]; exact x2⟩
/-- timers, both sides -/
def WrT (h g : sHp) (U Q : Nat) : Prop := Q ≤ 2 ∧ h.1 2 17 = o Q ∧ g.1 0 29 = o Q ∧ ∀ k, k < Q → ∃ q, q < U ∧ h.1 19 k = o q ∧ g.1 23 k = o q
theorem WrT_keep (hE : Ek h h') (hT : Tk g g') (hW : WrT h g U Q) : WrT h' g' U Q := by
  obtain ⟨a, b, c, d⟩ := hW
  refine ⟨a, by rw [Ek_at hE (by omega)]; exact b, by rw [Tk_at hT (by omega) (by omega)]; exact c, fun k hk => ?_⟩
  obtain ⟨q, q0, q1, q2⟩ := d k hk
  exact ⟨q, q0, by rw [Ek_at hE (by omega)]; exact q1, by rw [Tk_at hT (by omega) (by omega)]; exact q2⟩
end KP
