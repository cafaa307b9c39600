theorem okL : ∀ M ∈ mtL, MOK mt M := by
  intro M h
  simp only [mtL, List.mem_append] at h
  rcases h with (((((((((h | h) | h) | h) | h) | h) | h) | h) | h) | h)
  · exact okL_0 M h
  · exact okL_1 M h
  · exact okL_2 M h
  · exact okL_3 M h
  · exact okL_4 M h
  · exact okL_5 M h
  · exact okL_6 M h
  · exact okL_7 M h
  · exact okL_8 M h
  · exact okL_9 M h
theorem mt_ok : ∀ i, MOK mt (mt i) := by
  intro i
  unfold mt
  by_cases h : i < mtL.length
  · rw [List.getD_eq_getElem?_getD, List.getElem?_eq_getElem h]
    exact okL _ (List.getElem_mem h)
  · rw [List.getD_eq_getElem?_getD, List.getElem?_eq_none (by omega)]
    exact ok_J13_bitCount_95d88
