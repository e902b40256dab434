/-- THE PRINTED WITNESS: no state whose tables lack the array class of StackTraceElement meets the premise: its part 'not castable' of that class is worth nothing there -/
theorem gr_premise {args : Array Value} {s : State} (h : s.vm.findClass "[Ljava/lang/StackTraceElement;" = none) : narrow_1.before args s = true → False := by
  intro hn
  have h1 := flat_of_before _ hn (.not (.castable "[Ljava/lang/StackTraceElement;" "java/lang/String")) (by decide +kernel)
  simp [Cond.before, Cond.holds, Cond.value, h] at h1
/-- THE ROOM: what is owed says that the heap has grown by no more cells than the room has: every cell that the run made counts, used or not -/
theorem gr_cells {tb : Tables} {e : Env} {a : Array Value} {s : State} {o : Outcome} {t : State} (h : Post_1_1 tb e a s o t) : t.heap.size ≤ s.heap.size + room_1.cells := by
  obtain ⟨-, ⟨⟨-, -, hs⟩, -, -⟩⟩ := h
  exact hs.2.2.1
/-- likewise of the slots of all these cells -/
theorem gr_slots {tb : Tables} {e : Env} {a : Array Value} {s : State} {o : Outcome} {t : State} (h : Post_1_1 tb e a s o t) : ((t.heap.toList.drop s.heap.size).map (·.slots.size)).sum ≤ room_1.slots := by
  obtain ⟨-, ⟨⟨-, -, hs⟩, -, -⟩⟩ := h
  exact hs.2.2.2.2.1
