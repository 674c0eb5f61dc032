theorem ok_keep : op_keep InvG := by
  intro sg sm hI
  obtain ⟨hP, hH, hS, hT⟩ := hI
  obtain ⟨P, Q, l1, l2, l3, l4, l5, l6, l7, l8, c1, c2, hRS, hrest⟩ := id hP
  obtain ⟨s0, A, B, s1, s2, s3⟩ := hS
  obtain ⟨A', e1, e2⟩ := e_keep (x := sg.1) (P := P) (A := A)
  obtain ⟨B', g1, g2⟩ := m_keep (Q := Q) (B := B) (x := sm.2.2.1)
  refine ⟨(ii (allP P), 1, il A'), (ii (mn Q 0 + mn Q 1 + mn Q 2 + mn Q 3), 1, il B'), by rw [c1, s1]; exact e1, by rw [c2, s2]; exact g1, congrArg ii hRS.all.symm, hP, hH, ⟨rfl, A', B', rfl, rfl, Or.inr ⟨rfl, hRS.ext e2 g2⟩⟩, hT⟩
