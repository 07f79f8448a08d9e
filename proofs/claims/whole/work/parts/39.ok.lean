theorem mv_okl {h h1 : mv_H} {f : mv_F} (e : h.1.length = h1.1.length) : mv_ok h h1 f = true := by unfold mv_ok; rw [e]; simp
theorem sok_q {q : Nat} {i : Int32} (h : sok q i = true) : Nat.blt q 101 = true := by
  unfold sok at h
  simp only [Bool.and_eq_true] at h
  exact h.1
