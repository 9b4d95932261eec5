/-- a process that is found has a place in the row -/
theorem k_GK_find_lt {s0 s1 : zS} {a : Int32} {q : Nat} (h : k_GK_find s0 a = some (s1, some q)) : q < 4 := by
  unfold k_GK_find at h
  split at h
  · cases h
  · split at h
    · obtain ⟨hc, h⟩ := ck_use h
      cases h
      exact zi_lt hc
    · cases h
