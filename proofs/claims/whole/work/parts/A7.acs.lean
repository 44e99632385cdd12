theorem v_CS.nx {S : q_S} {c : Nat → Nat} {n z : Nat} (h : v_CS S c n z) (hz : z < 100) : v_CS (q_sI S 1024 5 (nI (z + 1))) c n (z + 1) := by
  obtain ⟨h1, h2, h3, h4, h5⟩ := h
  exact ⟨⟨h1.1, fun j hj => ⟨(h1.2 j hj).1, (h1.2 j hj).2⟩⟩, h2, h3, rfl, hz⟩
