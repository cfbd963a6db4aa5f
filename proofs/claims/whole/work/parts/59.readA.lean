/-! THE CLASS as it reads -/
def rdA (σ : MT) (s : RS) : Prop := σ.1 2 1 = nI s.1 ∧ ((s.1 = 2 ∨ s.1 = 8 ∨ s.1 = 10) → σ.1 2 2 = nI s.2.1) ∧ ((s.1 = 7 ∨ s.1 = 8) → σ.1 2 3 = s.2.2.1) ∧ pA σ 3 s.2.2.2.1 ∧ ∀ i, i < pN s.2.2.2.1 → σ.1 4 i = s.2.2.2.2 i
def PRd : Nat → Prop := fun c => 2 ≤ c ∧ c < 14
theorem pA.f {σ : MT} {c : Nat} {q : PLN} {j : Nat} {v : Int32} (h : pA σ c q) (hj : j < 3) : pA (sI σ c j v) c (setF q j v) := by
  obtain ⟨⟨f0, f1, f2⟩, h3, h4, h5, h6, h7⟩ := h
  have g : ∀ i, i < 3 → (sI σ c j v).1 c i = (setF q j v).1 i := fun i hi => by
    rw [sI_r]
    show _ = (if i = j then v else q.1 i)
    by_cases z : i = j
    · rw [if_pos ⟨rfl, z⟩, if_pos z]
    · rw [if_neg (fun w => z w.2), if_neg z]
      obtain rfl | rfl | rfl : i = 0 ∨ i = 1 ∨ i = 2 := by omega
      · exact f0
      · exact f1
      · exact f2
  exact ⟨⟨g 0 (by omega), g 1 (by omega), g 2 (by omega)⟩, by rw [sI_r, if_neg (by omega)]; exact h3, by rw [sI_r, if_neg (by omega)]; exact h4, fun i hi => by rw [sI_n (by omega)]; exact h5 i hi, fun l hl => by rw [sI_n (by omega), sI_n (by omega)]; exact h6 l hl, fun a ha b hb => by rw [sI_n (by omega)]; exact h7 a ha b hb⟩
theorem pA.w2 {σ : MT} {q : PLN} {j : Nat} {v : Int32} (h : pA σ 3 q) : pA (sI σ 2 j v) 3 q := h.eo (P := fun a => a = 2) (EO.i (P := fun a => a = 2) EO.rf rfl) (fun a h1 h2 => by omega)
