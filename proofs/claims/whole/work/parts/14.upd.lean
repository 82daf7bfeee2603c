theorem wEq_0 {m : gM} {g : Nat → Int32} {v : Int32} (c : wEq m g) : wEq (g_up m 0 0 v) (upd g 605 v) := by
  obtain ⟨c1, c2, c3, c4, c5, c6, c7⟩ := c
  refine ⟨?_, fun i hi => ?_, ?_, fun r hr => ?_, fun s hs => ?_, fun o ho => ?_, fun r hr => ?_⟩
  · rw [g_up_3]; unfold upd; rw [if_pos rfl]
  · unfold upd; rw [if_neg (by omega), g_up_1 (by decide)]; exact (c2 i hi)
  · unfold upd; rw [if_neg (by omega), g_up_1 (by decide)]; exact c3
  · obtain ⟨d1, d2, d3⟩ := c4 r hr
    refine ⟨?_, ?_, ?_⟩
    · unfold upd; rw [if_neg (by omega), g_up_1 (by decide)]; exact d1
    · unfold upd; rw [if_neg (by omega), g_up_1 (by decide)]; exact d2
    · unfold upd; rw [if_neg (by omega), g_up_1 (by decide)]; exact d3
  · obtain ⟨d0, d1, d2, d3, d4, d5, d6, d7, d8⟩ := c5 s hs
    refine ⟨?_, ?_, ?_, ?_, ?_, ?_, ?_, ?_, ?_⟩
    · unfold upd; rw [if_neg (by omega), g_up_1 (by decide)]; exact d0
    · unfold upd; rw [if_neg (by omega), g_up_1 (by decide)]; exact d1
    · unfold upd; rw [if_neg (by omega), g_up_1 (by decide)]; exact d2
    · unfold upd; rw [if_neg (by omega), g_up_1 (by decide)]; exact d3
    · unfold upd; rw [if_neg (by omega), g_up_1 (by decide)]; exact d4
    · unfold upd; rw [if_neg (by omega), g_up_1 (by decide)]; exact d5
    · unfold upd; rw [if_neg (by omega), g_up_1 (by decide)]; exact d6
    · unfold upd; rw [if_neg (by omega), g_up_1 (by decide)]; exact d7
    · unfold upd; rw [if_neg (by omega), g_up_1 (by decide)]; exact d8
  · unfold upd; rw [if_neg (by omega), g_up_1 (by decide)]; exact (c6 o ho)
  · unfold upd; rw [if_neg (by omega), g_up_1 (by decide)]; exact (c7 r hr)

theorem wEq_1 {m : gM} {g : Nat → Int32} {j : Nat} {v : Int32} (hj : j < 240) (c : wEq m g) : wEq (g_up m 1 j v) (upd g (330 + j) v) := by
  obtain ⟨c1, c2, c3, c4, c5, c6, c7⟩ := c
  refine ⟨?_, fun i hi => ?_, ?_, fun r hr => ?_, fun s hs => ?_, fun o ho => ?_, fun r hr => ?_⟩
  · unfold upd; rw [if_neg (by omega), g_up_1 (by decide)]; exact c1
  · by_cases e : i = j
    · subst e; rw [g_up_3]; unfold upd; rw [if_pos rfl]
    · rw [g_up_2 e]; unfold upd; rw [if_neg (by omega)]; exact (c2 i hi)
  · unfold upd; rw [if_neg (by omega), g_up_1 (by decide)]; exact c3
  · obtain ⟨d1, d2, d3⟩ := c4 r hr
    refine ⟨?_, ?_, ?_⟩
    · unfold upd; rw [if_neg (by omega), g_up_1 (by decide)]; exact d1
    · unfold upd; rw [if_neg (by omega), g_up_1 (by decide)]; exact d2
    · unfold upd; rw [if_neg (by omega), g_up_1 (by decide)]; exact d3
  · obtain ⟨d0, d1, d2, d3, d4, d5, d6, d7, d8⟩ := c5 s hs
    refine ⟨?_, ?_, ?_, ?_, ?_, ?_, ?_, ?_, ?_⟩
    · unfold upd; rw [if_neg (by omega), g_up_1 (by decide)]; exact d0
    · unfold upd; rw [if_neg (by omega), g_up_1 (by decide)]; exact d1
    · unfold upd; rw [if_neg (by omega), g_up_1 (by decide)]; exact d2
    · unfold upd; rw [if_neg (by omega), g_up_1 (by decide)]; exact d3
    · unfold upd; rw [if_neg (by omega), g_up_1 (by decide)]; exact d4
    · unfold upd; rw [if_neg (by omega), g_up_1 (by decide)]; exact d5
    · unfold upd; rw [if_neg (by omega), g_up_1 (by decide)]; exact d6
    · unfold upd; rw [if_neg (by omega), g_up_1 (by decide)]; exact d7
    · unfold upd; rw [if_neg (by omega), g_up_1 (by decide)]; exact d8
  · unfold upd; rw [if_neg (by omega), g_up_1 (by decide)]; exact (c6 o ho)
  · unfold upd; rw [if_neg (by omega), g_up_1 (by decide)]; exact (c7 r hr)

theorem wEq_2 {m : gM} {g : Nat → Int32} {v : Int32} (c : wEq m g) : wEq (g_up m 2 0 v) (upd g 570 v) := by
  obtain ⟨c1, c2, c3, c4, c5, c6, c7⟩ := c
  refine ⟨?_, fun i hi => ?_, ?_, fun r hr => ?_, fun s hs => ?_, fun o ho => ?_, fun r hr => ?_⟩
  · unfold upd; rw [if_neg (by omega), g_up_1 (by decide)]; exact c1
  · unfold upd; rw [if_neg (by omega), g_up_1 (by decide)]; exact (c2 i hi)
  · rw [g_up_3]; unfold upd; rw [if_pos rfl]
  · obtain ⟨d1, d2, d3⟩ := c4 r hr
    refine ⟨?_, ?_, ?_⟩
    · unfold upd; rw [if_neg (by omega), g_up_1 (by decide)]; exact d1
    · unfold upd; rw [if_neg (by omega), g_up_1 (by decide)]; exact d2
    · unfold upd; rw [if_neg (by omega), g_up_1 (by decide)]; exact d3
  · obtain ⟨d0, d1, d2, d3, d4, d5, d6, d7, d8⟩ := c5 s hs
    refine ⟨?_, ?_, ?_, ?_, ?_, ?_, ?_, ?_, ?_⟩
    · unfold upd; rw [if_neg (by omega), g_up_1 (by decide)]; exact d0
    · unfold upd; rw [if_neg (by omega), g_up_1 (by decide)]; exact d1
    · unfold upd; rw [if_neg (by omega), g_up_1 (by decide)]; exact d2
    · unfold upd; rw [if_neg (by omega), g_up_1 (by decide)]; exact d3
    · unfold upd; rw [if_neg (by omega), g_up_1 (by decide)]; exact d4
    · unfold upd; rw [if_neg (by omega), g_up_1 (by decide)]; exact d5
    · unfold upd; rw [if_neg (by omega), g_up_1 (by decide)]; exact d6
    · unfold upd; rw [if_neg (by omega), g_up_1 (by decide)]; exact d7
    · unfold upd; rw [if_neg (by omega), g_up_1 (by decide)]; exact d8
  · unfold upd; rw [if_neg (by omega), g_up_1 (by decide)]; exact (c6 o ho)
  · unfold upd; rw [if_neg (by omega), g_up_1 (by decide)]; exact (c7 r hr)

theorem wEq_3 {m : gM} {g : Nat → Int32} {j : Nat} {v : Int32} (hj : j < 6) (c : wEq m g) : wEq (g_up m 3 j v) (upd g (571 + j) v) := by
  obtain ⟨c1, c2, c3, c4, c5, c6, c7⟩ := c
  refine ⟨?_, fun i hi => ?_, ?_, fun r hr => ?_, fun s hs => ?_, fun o ho => ?_, fun r hr => ?_⟩
  · unfold upd; rw [if_neg (by omega), g_up_1 (by decide)]; exact c1
  · unfold upd; rw [if_neg (by omega), g_up_1 (by decide)]; exact (c2 i hi)
  · unfold upd; rw [if_neg (by omega), g_up_1 (by decide)]; exact c3
  · obtain ⟨d1, d2, d3⟩ := c4 r hr
    refine ⟨?_, ?_, ?_⟩
    · by_cases e : r = j
      · subst e; rw [g_up_3]; unfold upd; rw [if_pos rfl]
      · rw [g_up_2 e]; unfold upd; rw [if_neg (by omega)]; exact d1
    · unfold upd; rw [if_neg (by omega), g_up_1 (by decide)]; exact d2
    · unfold upd; rw [if_neg (by omega), g_up_1 (by decide)]; exact d3
  · obtain ⟨d0, d1, d2, d3, d4, d5, d6, d7, d8⟩ := c5 s hs
    refine ⟨?_, ?_, ?_, ?_, ?_, ?_, ?_, ?_, ?_⟩
    · unfold upd; rw [if_neg (by omega), g_up_1 (by decide)]; exact d0
    · unfold upd; rw [if_neg (by omega), g_up_1 (by decide)]; exact d1
    · unfold upd; rw [if_neg (by omega), g_up_1 (by decide)]; exact d2
    · unfold upd; rw [if_neg (by omega), g_up_1 (by decide)]; exact d3
    · unfold upd; rw [if_neg (by omega), g_up_1 (by decide)]; exact d4
    · unfold upd; rw [if_neg (by omega), g_up_1 (by decide)]; exact d5
    · unfold upd; rw [if_neg (by omega), g_up_1 (by decide)]; exact d6
    · unfold upd; rw [if_neg (by omega), g_up_1 (by decide)]; exact d7
    · unfold upd; rw [if_neg (by omega), g_up_1 (by decide)]; exact d8
  · unfold upd; rw [if_neg (by omega), g_up_1 (by decide)]; exact (c6 o ho)
  · unfold upd; rw [if_neg (by omega), g_up_1 (by decide)]; exact (c7 r hr)

theorem wEq_4 {m : gM} {g : Nat → Int32} {j : Nat} {v : Int32} (hj : j < 6) (c : wEq m g) : wEq (g_up m 4 j v) (upd g (577 + j) v) := by
  obtain ⟨c1, c2, c3, c4, c5, c6, c7⟩ := c
  refine ⟨?_, fun i hi => ?_, ?_, fun r hr => ?_, fun s hs => ?_, fun o ho => ?_, fun r hr => ?_⟩
  · unfold upd; rw [if_neg (by omega), g_up_1 (by decide)]; exact c1
  · unfold upd; rw [if_neg (by omega), g_up_1 (by decide)]; exact (c2 i hi)
  · unfold upd; rw [if_neg (by omega), g_up_1 (by decide)]; exact c3
  · obtain ⟨d1, d2, d3⟩ := c4 r hr
    refine ⟨?_, ?_, ?_⟩
    · unfold upd; rw [if_neg (by omega), g_up_1 (by decide)]; exact d1
    · by_cases e : r = j
      · subst e; rw [g_up_3]; unfold upd; rw [if_pos rfl]
      · rw [g_up_2 e]; unfold upd; rw [if_neg (by omega)]; exact d2
    · unfold upd; rw [if_neg (by omega), g_up_1 (by decide)]; exact d3
  · obtain ⟨d0, d1, d2, d3, d4, d5, d6, d7, d8⟩ := c5 s hs
    refine ⟨?_, ?_, ?_, ?_, ?_, ?_, ?_, ?_, ?_⟩
    · unfold upd; rw [if_neg (by omega), g_up_1 (by decide)]; exact d0
    · unfold upd; rw [if_neg (by omega), g_up_1 (by decide)]; exact d1
    · unfold upd; rw [if_neg (by omega), g_up_1 (by decide)]; exact d2
    · unfold upd; rw [if_neg (by omega), g_up_1 (by decide)]; exact d3
    · unfold upd; rw [if_neg (by omega), g_up_1 (by decide)]; exact d4
    · unfold upd; rw [if_neg (by omega), g_up_1 (by decide)]; exact d5
    · unfold upd; rw [if_neg (by omega), g_up_1 (by decide)]; exact d6
    · unfold upd; rw [if_neg (by omega), g_up_1 (by decide)]; exact d7
    · unfold upd; rw [if_neg (by omega), g_up_1 (by decide)]; exact d8
  · unfold upd; rw [if_neg (by omega), g_up_1 (by decide)]; exact (c6 o ho)
  · unfold upd; rw [if_neg (by omega), g_up_1 (by decide)]; exact (c7 r hr)

theorem wEq_5 {m : gM} {g : Nat → Int32} {j : Nat} {v : Int32} (hj : j < 6) (c : wEq m g) : wEq (g_up m 5 j v) (upd g (583 + j) v) := by
  obtain ⟨c1, c2, c3, c4, c5, c6, c7⟩ := c
  refine ⟨?_, fun i hi => ?_, ?_, fun r hr => ?_, fun s hs => ?_, fun o ho => ?_, fun r hr => ?_⟩
  · unfold upd; rw [if_neg (by omega), g_up_1 (by decide)]; exact c1
  · unfold upd; rw [if_neg (by omega), g_up_1 (by decide)]; exact (c2 i hi)
  · unfold upd; rw [if_neg (by omega), g_up_1 (by decide)]; exact c3
  · obtain ⟨d1, d2, d3⟩ := c4 r hr
    refine ⟨?_, ?_, ?_⟩
    · unfold upd; rw [if_neg (by omega), g_up_1 (by decide)]; exact d1
    · unfold upd; rw [if_neg (by omega), g_up_1 (by decide)]; exact d2
    · by_cases e : r = j
      · subst e; rw [g_up_3]; unfold upd; rw [if_pos rfl]
      · rw [g_up_2 e]; unfold upd; rw [if_neg (by omega)]; exact d3
  · obtain ⟨d0, d1, d2, d3, d4, d5, d6, d7, d8⟩ := c5 s hs
    refine ⟨?_, ?_, ?_, ?_, ?_, ?_, ?_, ?_, ?_⟩
    · unfold upd; rw [if_neg (by omega), g_up_1 (by decide)]; exact d0
    · unfold upd; rw [if_neg (by omega), g_up_1 (by decide)]; exact d1
    · unfold upd; rw [if_neg (by omega), g_up_1 (by decide)]; exact d2
    · unfold upd; rw [if_neg (by omega), g_up_1 (by decide)]; exact d3
    · unfold upd; rw [if_neg (by omega), g_up_1 (by decide)]; exact d4
    · unfold upd; rw [if_neg (by omega), g_up_1 (by decide)]; exact d5
    · unfold upd; rw [if_neg (by omega), g_up_1 (by decide)]; exact d6
    · unfold upd; rw [if_neg (by omega), g_up_1 (by decide)]; exact d7
    · unfold upd; rw [if_neg (by omega), g_up_1 (by decide)]; exact d8
  · unfold upd; rw [if_neg (by omega), g_up_1 (by decide)]; exact (c6 o ho)
  · unfold upd; rw [if_neg (by omega), g_up_1 (by decide)]; exact (c7 r hr)

theorem wEq_9 {m : gM} {g : Nat → Int32} {j : Nat} {v : Int32} (hj : j < 30) (c : wEq m g) : wEq (g_up m 9 j v) (upd g (j * 11 + 1) v) := by
  obtain ⟨c1, c2, c3, c4, c5, c6, c7⟩ := c
  refine ⟨?_, fun i hi => ?_, ?_, fun r hr => ?_, fun s hs => ?_, fun o ho => ?_, fun r hr => ?_⟩
  · unfold upd; rw [if_neg (by omega), g_up_1 (by decide)]; exact c1
  · unfold upd; rw [if_neg (by omega), g_up_1 (by decide)]; exact (c2 i hi)
  · unfold upd; rw [if_neg (by omega), g_up_1 (by decide)]; exact c3
  · obtain ⟨d1, d2, d3⟩ := c4 r hr
    refine ⟨?_, ?_, ?_⟩
    · unfold upd; rw [if_neg (by omega), g_up_1 (by decide)]; exact d1
    · unfold upd; rw [if_neg (by omega), g_up_1 (by decide)]; exact d2
    · unfold upd; rw [if_neg (by omega), g_up_1 (by decide)]; exact d3
  · obtain ⟨d0, d1, d2, d3, d4, d5, d6, d7, d8⟩ := c5 s hs
    refine ⟨?_, ?_, ?_, ?_, ?_, ?_, ?_, ?_, ?_⟩
    · unfold upd; rw [if_neg (by omega), g_up_1 (by decide)]; exact d0
    · by_cases e : s = j
      · subst e; rw [g_up_3]; unfold upd; rw [if_pos rfl]
      · rw [g_up_2 e]; unfold upd; rw [if_neg (by omega)]; exact d1
    · unfold upd; rw [if_neg (by omega), g_up_1 (by decide)]; exact d2
    · unfold upd; rw [if_neg (by omega), g_up_1 (by decide)]; exact d3
    · unfold upd; rw [if_neg (by omega), g_up_1 (by decide)]; exact d4
    · unfold upd; rw [if_neg (by omega), g_up_1 (by decide)]; exact d5
    · unfold upd; rw [if_neg (by omega), g_up_1 (by decide)]; exact d6
    · unfold upd; rw [if_neg (by omega), g_up_1 (by decide)]; exact d7
    · unfold upd; rw [if_neg (by omega), g_up_1 (by decide)]; exact d8
  · unfold upd; rw [if_neg (by omega), g_up_1 (by decide)]; exact (c6 o ho)
  · unfold upd; rw [if_neg (by omega), g_up_1 (by decide)]; exact (c7 r hr)

theorem wEq_10 {m : gM} {g : Nat → Int32} {j : Nat} {v : Int32} (hj : j < 30) (c : wEq m g) : wEq (g_up m 10 j v) (upd g (j * 11 + 0) v) := by
  obtain ⟨c1, c2, c3, c4, c5, c6, c7⟩ := c
  refine ⟨?_, fun i hi => ?_, ?_, fun r hr => ?_, fun s hs => ?_, fun o ho => ?_, fun r hr => ?_⟩
  · unfold upd; rw [if_neg (by omega), g_up_1 (by decide)]; exact c1
  · unfold upd; rw [if_neg (by omega), g_up_1 (by decide)]; exact (c2 i hi)
  · unfold upd; rw [if_neg (by omega), g_up_1 (by decide)]; exact c3
  · obtain ⟨d1, d2, d3⟩ := c4 r hr
    refine ⟨?_, ?_, ?_⟩
    · unfold upd; rw [if_neg (by omega), g_up_1 (by decide)]; exact d1
    · unfold upd; rw [if_neg (by omega), g_up_1 (by decide)]; exact d2
    · unfold upd; rw [if_neg (by omega), g_up_1 (by decide)]; exact d3
  · obtain ⟨d0, d1, d2, d3, d4, d5, d6, d7, d8⟩ := c5 s hs
    refine ⟨?_, ?_, ?_, ?_, ?_, ?_, ?_, ?_, ?_⟩
    · by_cases e : s = j
      · subst e; rw [g_up_3]; unfold upd; rw [if_pos rfl]
      · rw [g_up_2 e]; unfold upd; rw [if_neg (by omega)]; exact d0
    · unfold upd; rw [if_neg (by omega), g_up_1 (by decide)]; exact d1
    · unfold upd; rw [if_neg (by omega), g_up_1 (by decide)]; exact d2
    · unfold upd; rw [if_neg (by omega), g_up_1 (by decide)]; exact d3
    · unfold upd; rw [if_neg (by omega), g_up_1 (by decide)]; exact d4
    · unfold upd; rw [if_neg (by omega), g_up_1 (by decide)]; exact d5
    · unfold upd; rw [if_neg (by omega), g_up_1 (by decide)]; exact d6
    · unfold upd; rw [if_neg (by omega), g_up_1 (by decide)]; exact d7
    · unfold upd; rw [if_neg (by omega), g_up_1 (by decide)]; exact d8
  · unfold upd; rw [if_neg (by omega), g_up_1 (by decide)]; exact (c6 o ho)
  · unfold upd; rw [if_neg (by omega), g_up_1 (by decide)]; exact (c7 r hr)

theorem wEq_11 {m : gM} {g : Nat → Int32} {j : Nat} {v : Int32} (hj : j < 30) (c : wEq m g) : wEq (g_up m 11 j v) (upd g (j * 11 + 2) v) := by
  obtain ⟨c1, c2, c3, c4, c5, c6, c7⟩ := c
  refine ⟨?_, fun i hi => ?_, ?_, fun r hr => ?_, fun s hs => ?_, fun o ho => ?_, fun r hr => ?_⟩
  · unfold upd; rw [if_neg (by omega), g_up_1 (by decide)]; exact c1
  · unfold upd; rw [if_neg (by omega), g_up_1 (by decide)]; exact (c2 i hi)
  · unfold upd; rw [if_neg (by omega), g_up_1 (by decide)]; exact c3
  · obtain ⟨d1, d2, d3⟩ := c4 r hr
    refine ⟨?_, ?_, ?_⟩
    · unfold upd; rw [if_neg (by omega), g_up_1 (by decide)]; exact d1
    · unfold upd; rw [if_neg (by omega), g_up_1 (by decide)]; exact d2
    · unfold upd; rw [if_neg (by omega), g_up_1 (by decide)]; exact d3
  · obtain ⟨d0, d1, d2, d3, d4, d5, d6, d7, d8⟩ := c5 s hs
    refine ⟨?_, ?_, ?_, ?_, ?_, ?_, ?_, ?_, ?_⟩
    · unfold upd; rw [if_neg (by omega), g_up_1 (by decide)]; exact d0
    · unfold upd; rw [if_neg (by omega), g_up_1 (by decide)]; exact d1
    · by_cases e : s = j
      · subst e; rw [g_up_3]; unfold upd; rw [if_pos rfl]
      · rw [g_up_2 e]; unfold upd; rw [if_neg (by omega)]; exact d2
    · unfold upd; rw [if_neg (by omega), g_up_1 (by decide)]; exact d3
    · unfold upd; rw [if_neg (by omega), g_up_1 (by decide)]; exact d4
    · unfold upd; rw [if_neg (by omega), g_up_1 (by decide)]; exact d5
    · unfold upd; rw [if_neg (by omega), g_up_1 (by decide)]; exact d6
    · unfold upd; rw [if_neg (by omega), g_up_1 (by decide)]; exact d7
    · unfold upd; rw [if_neg (by omega), g_up_1 (by decide)]; exact d8
  · unfold upd; rw [if_neg (by omega), g_up_1 (by decide)]; exact (c6 o ho)
  · unfold upd; rw [if_neg (by omega), g_up_1 (by decide)]; exact (c7 r hr)

theorem wEq_12 {m : gM} {g : Nat → Int32} {j : Nat} {v : Int32} (hj : j < 30) (c : wEq m g) : wEq (g_up m 12 j v) (upd g (j * 11 + 3) v) := by
  obtain ⟨c1, c2, c3, c4, c5, c6, c7⟩ := c
  refine ⟨?_, fun i hi => ?_, ?_, fun r hr => ?_, fun s hs => ?_, fun o ho => ?_, fun r hr => ?_⟩
  · unfold upd; rw [if_neg (by omega), g_up_1 (by decide)]; exact c1
  · unfold upd; rw [if_neg (by omega), g_up_1 (by decide)]; exact (c2 i hi)
  · unfold upd; rw [if_neg (by omega), g_up_1 (by decide)]; exact c3
  · obtain ⟨d1, d2, d3⟩ := c4 r hr
    refine ⟨?_, ?_, ?_⟩
    · unfold upd; rw [if_neg (by omega), g_up_1 (by decide)]; exact d1
    · unfold upd; rw [if_neg (by omega), g_up_1 (by decide)]; exact d2
    · unfold upd; rw [if_neg (by omega), g_up_1 (by decide)]; exact d3
  · obtain ⟨d0, d1, d2, d3, d4, d5, d6, d7, d8⟩ := c5 s hs
    refine ⟨?_, ?_, ?_, ?_, ?_, ?_, ?_, ?_, ?_⟩
    · unfold upd; rw [if_neg (by omega), g_up_1 (by decide)]; exact d0
    · unfold upd; rw [if_neg (by omega), g_up_1 (by decide)]; exact d1
    · unfold upd; rw [if_neg (by omega), g_up_1 (by decide)]; exact d2
    · by_cases e : s = j
      · subst e; rw [g_up_3]; unfold upd; rw [if_pos rfl]
      · rw [g_up_2 e]; unfold upd; rw [if_neg (by omega)]; exact d3
    · unfold upd; rw [if_neg (by omega), g_up_1 (by decide)]; exact d4
    · unfold upd; rw [if_neg (by omega), g_up_1 (by decide)]; exact d5
    · unfold upd; rw [if_neg (by omega), g_up_1 (by decide)]; exact d6
    · unfold upd; rw [if_neg (by omega), g_up_1 (by decide)]; exact d7
    · unfold upd; rw [if_neg (by omega), g_up_1 (by decide)]; exact d8
  · unfold upd; rw [if_neg (by omega), g_up_1 (by decide)]; exact (c6 o ho)
  · unfold upd; rw [if_neg (by omega), g_up_1 (by decide)]; exact (c7 r hr)

theorem wEq_13 {m : gM} {g : Nat → Int32} {j : Nat} {v : Int32} (hj : j < 30) (c : wEq m g) : wEq (g_up m 13 j v) (upd g (j * 11 + 4) v) := by
  obtain ⟨c1, c2, c3, c4, c5, c6, c7⟩ := c
  refine ⟨?_, fun i hi => ?_, ?_, fun r hr => ?_, fun s hs => ?_, fun o ho => ?_, fun r hr => ?_⟩
  · unfold upd; rw [if_neg (by omega), g_up_1 (by decide)]; exact c1
  · unfold upd; rw [if_neg (by omega), g_up_1 (by decide)]; exact (c2 i hi)
  · unfold upd; rw [if_neg (by omega), g_up_1 (by decide)]; exact c3
  · obtain ⟨d1, d2, d3⟩ := c4 r hr
    refine ⟨?_, ?_, ?_⟩
    · unfold upd; rw [if_neg (by omega), g_up_1 (by decide)]; exact d1
    · unfold upd; rw [if_neg (by omega), g_up_1 (by decide)]; exact d2
    · unfold upd; rw [if_neg (by omega), g_up_1 (by decide)]; exact d3
  · obtain ⟨d0, d1, d2, d3, d4, d5, d6, d7, d8⟩ := c5 s hs
    refine ⟨?_, ?_, ?_, ?_, ?_, ?_, ?_, ?_, ?_⟩
    · unfold upd; rw [if_neg (by omega), g_up_1 (by decide)]; exact d0
    · unfold upd; rw [if_neg (by omega), g_up_1 (by decide)]; exact d1
    · unfold upd; rw [if_neg (by omega), g_up_1 (by decide)]; exact d2
    · unfold upd; rw [if_neg (by omega), g_up_1 (by decide)]; exact d3
    · by_cases e : s = j
      · subst e; rw [g_up_3]; unfold upd; rw [if_pos rfl]
      · rw [g_up_2 e]; unfold upd; rw [if_neg (by omega)]; exact d4
    · unfold upd; rw [if_neg (by omega), g_up_1 (by decide)]; exact d5
    · unfold upd; rw [if_neg (by omega), g_up_1 (by decide)]; exact d6
    · unfold upd; rw [if_neg (by omega), g_up_1 (by decide)]; exact d7
    · unfold upd; rw [if_neg (by omega), g_up_1 (by decide)]; exact d8
  · unfold upd; rw [if_neg (by omega), g_up_1 (by decide)]; exact (c6 o ho)
  · unfold upd; rw [if_neg (by omega), g_up_1 (by decide)]; exact (c7 r hr)

theorem wEq_14 {m : gM} {g : Nat → Int32} {j : Nat} {v : Int32} (hj : j < 30) (c : wEq m g) : wEq (g_up m 14 j v) (upd g (j * 11 + 5) v) := by
  obtain ⟨c1, c2, c3, c4, c5, c6, c7⟩ := c
  refine ⟨?_, fun i hi => ?_, ?_, fun r hr => ?_, fun s hs => ?_, fun o ho => ?_, fun r hr => ?_⟩
  · unfold upd; rw [if_neg (by omega), g_up_1 (by decide)]; exact c1
  · unfold upd; rw [if_neg (by omega), g_up_1 (by decide)]; exact (c2 i hi)
  · unfold upd; rw [if_neg (by omega), g_up_1 (by decide)]; exact c3
  · obtain ⟨d1, d2, d3⟩ := c4 r hr
    refine ⟨?_, ?_, ?_⟩
    · unfold upd; rw [if_neg (by omega), g_up_1 (by decide)]; exact d1
    · unfold upd; rw [if_neg (by omega), g_up_1 (by decide)]; exact d2
    · unfold upd; rw [if_neg (by omega), g_up_1 (by decide)]; exact d3
  · obtain ⟨d0, d1, d2, d3, d4, d5, d6, d7, d8⟩ := c5 s hs
    refine ⟨?_, ?_, ?_, ?_, ?_, ?_, ?_, ?_, ?_⟩
    · unfold upd; rw [if_neg (by omega), g_up_1 (by decide)]; exact d0
    · unfold upd; rw [if_neg (by omega), g_up_1 (by decide)]; exact d1
    · unfold upd; rw [if_neg (by omega), g_up_1 (by decide)]; exact d2
    · unfold upd; rw [if_neg (by omega), g_up_1 (by decide)]; exact d3
    · unfold upd; rw [if_neg (by omega), g_up_1 (by decide)]; exact d4
    · by_cases e : s = j
      · subst e; rw [g_up_3]; unfold upd; rw [if_pos rfl]
      · rw [g_up_2 e]; unfold upd; rw [if_neg (by omega)]; exact d5
    · unfold upd; rw [if_neg (by omega), g_up_1 (by decide)]; exact d6
    · unfold upd; rw [if_neg (by omega), g_up_1 (by decide)]; exact d7
    · unfold upd; rw [if_neg (by omega), g_up_1 (by decide)]; exact d8
  · unfold upd; rw [if_neg (by omega), g_up_1 (by decide)]; exact (c6 o ho)
  · unfold upd; rw [if_neg (by omega), g_up_1 (by decide)]; exact (c7 r hr)

theorem wEq_15 {m : gM} {g : Nat → Int32} {j : Nat} {v : Int32} (hj : j < 30) (c : wEq m g) : wEq (g_up m 15 j v) (upd g (j * 11 + 6) v) := by
  obtain ⟨c1, c2, c3, c4, c5, c6, c7⟩ := c
  refine ⟨?_, fun i hi => ?_, ?_, fun r hr => ?_, fun s hs => ?_, fun o ho => ?_, fun r hr => ?_⟩
  · unfold upd; rw [if_neg (by omega), g_up_1 (by decide)]; exact c1
  · unfold upd; rw [if_neg (by omega), g_up_1 (by decide)]; exact (c2 i hi)
  · unfold upd; rw [if_neg (by omega), g_up_1 (by decide)]; exact c3
  · obtain ⟨d1, d2, d3⟩ := c4 r hr
    refine ⟨?_, ?_, ?_⟩
    · unfold upd; rw [if_neg (by omega), g_up_1 (by decide)]; exact d1
    · unfold upd; rw [if_neg (by omega), g_up_1 (by decide)]; exact d2
    · unfold upd; rw [if_neg (by omega), g_up_1 (by decide)]; exact d3
  · obtain ⟨d0, d1, d2, d3, d4, d5, d6, d7, d8⟩ := c5 s hs
    refine ⟨?_, ?_, ?_, ?_, ?_, ?_, ?_, ?_, ?_⟩
    · unfold upd; rw [if_neg (by omega), g_up_1 (by decide)]; exact d0
    · unfold upd; rw [if_neg (by omega), g_up_1 (by decide)]; exact d1
    · unfold upd; rw [if_neg (by omega), g_up_1 (by decide)]; exact d2
    · unfold upd; rw [if_neg (by omega), g_up_1 (by decide)]; exact d3
    · unfold upd; rw [if_neg (by omega), g_up_1 (by decide)]; exact d4
    · unfold upd; rw [if_neg (by omega), g_up_1 (by decide)]; exact d5
    · by_cases e : s = j
      · subst e; rw [g_up_3]; unfold upd; rw [if_pos rfl]
      · rw [g_up_2 e]; unfold upd; rw [if_neg (by omega)]; exact d6
    · unfold upd; rw [if_neg (by omega), g_up_1 (by decide)]; exact d7
    · unfold upd; rw [if_neg (by omega), g_up_1 (by decide)]; exact d8
  · unfold upd; rw [if_neg (by omega), g_up_1 (by decide)]; exact (c6 o ho)
  · unfold upd; rw [if_neg (by omega), g_up_1 (by decide)]; exact (c7 r hr)

theorem wEq_16 {m : gM} {g : Nat → Int32} {j : Nat} {v : Int32} (hj : j < 30) (c : wEq m g) : wEq (g_up m 16 j v) (upd g (j * 11 + 7) v) := by
  obtain ⟨c1, c2, c3, c4, c5, c6, c7⟩ := c
  refine ⟨?_, fun i hi => ?_, ?_, fun r hr => ?_, fun s hs => ?_, fun o ho => ?_, fun r hr => ?_⟩
  · unfold upd; rw [if_neg (by omega), g_up_1 (by decide)]; exact c1
  · unfold upd; rw [if_neg (by omega), g_up_1 (by decide)]; exact (c2 i hi)
  · unfold upd; rw [if_neg (by omega), g_up_1 (by decide)]; exact c3
  · obtain ⟨d1, d2, d3⟩ := c4 r hr
    refine ⟨?_, ?_, ?_⟩
    · unfold upd; rw [if_neg (by omega), g_up_1 (by decide)]; exact d1
    · unfold upd; rw [if_neg (by omega), g_up_1 (by decide)]; exact d2
    · unfold upd; rw [if_neg (by omega), g_up_1 (by decide)]; exact d3
  · obtain ⟨d0, d1, d2, d3, d4, d5, d6, d7, d8⟩ := c5 s hs
    refine ⟨?_, ?_, ?_, ?_, ?_, ?_, ?_, ?_, ?_⟩
    · unfold upd; rw [if_neg (by omega), g_up_1 (by decide)]; exact d0
    · unfold upd; rw [if_neg (by omega), g_up_1 (by decide)]; exact d1
    · unfold upd; rw [if_neg (by omega), g_up_1 (by decide)]; exact d2
    · unfold upd; rw [if_neg (by omega), g_up_1 (by decide)]; exact d3
    · unfold upd; rw [if_neg (by omega), g_up_1 (by decide)]; exact d4
    · unfold upd; rw [if_neg (by omega), g_up_1 (by decide)]; exact d5
    · unfold upd; rw [if_neg (by omega), g_up_1 (by decide)]; exact d6
    · by_cases e : s = j
      · subst e; rw [g_up_3]; unfold upd; rw [if_pos rfl]
      · rw [g_up_2 e]; unfold upd; rw [if_neg (by omega)]; exact d7
    · unfold upd; rw [if_neg (by omega), g_up_1 (by decide)]; exact d8
  · unfold upd; rw [if_neg (by omega), g_up_1 (by decide)]; exact (c6 o ho)
  · unfold upd; rw [if_neg (by omega), g_up_1 (by decide)]; exact (c7 r hr)

theorem wEq_17 {m : gM} {g : Nat → Int32} {j : Nat} {v : Int32} (hj : j < 30) (c : wEq m g) : wEq (g_up m 17 j v) (upd g (j * 11 + 9) v) := by
  obtain ⟨c1, c2, c3, c4, c5, c6, c7⟩ := c
  refine ⟨?_, fun i hi => ?_, ?_, fun r hr => ?_, fun s hs => ?_, fun o ho => ?_, fun r hr => ?_⟩
  · unfold upd; rw [if_neg (by omega), g_up_1 (by decide)]; exact c1
  · unfold upd; rw [if_neg (by omega), g_up_1 (by decide)]; exact (c2 i hi)
  · unfold upd; rw [if_neg (by omega), g_up_1 (by decide)]; exact c3
  · obtain ⟨d1, d2, d3⟩ := c4 r hr
    refine ⟨?_, ?_, ?_⟩
    · unfold upd; rw [if_neg (by omega), g_up_1 (by decide)]; exact d1
    · unfold upd; rw [if_neg (by omega), g_up_1 (by decide)]; exact d2
    · unfold upd; rw [if_neg (by omega), g_up_1 (by decide)]; exact d3
  · obtain ⟨d0, d1, d2, d3, d4, d5, d6, d7, d8⟩ := c5 s hs
    refine ⟨?_, ?_, ?_, ?_, ?_, ?_, ?_, ?_, ?_⟩
    · unfold upd; rw [if_neg (by omega), g_up_1 (by decide)]; exact d0
    · unfold upd; rw [if_neg (by omega), g_up_1 (by decide)]; exact d1
    · unfold upd; rw [if_neg (by omega), g_up_1 (by decide)]; exact d2
    · unfold upd; rw [if_neg (by omega), g_up_1 (by decide)]; exact d3
    · unfold upd; rw [if_neg (by omega), g_up_1 (by decide)]; exact d4
    · unfold upd; rw [if_neg (by omega), g_up_1 (by decide)]; exact d5
    · unfold upd; rw [if_neg (by omega), g_up_1 (by decide)]; exact d6
    · unfold upd; rw [if_neg (by omega), g_up_1 (by decide)]; exact d7
    · by_cases e : s = j
      · subst e; rw [g_up_3]; unfold upd; rw [if_pos rfl]
      · rw [g_up_2 e]; unfold upd; rw [if_neg (by omega)]; exact d8
  · unfold upd; rw [if_neg (by omega), g_up_1 (by decide)]; exact (c6 o ho)
  · unfold upd; rw [if_neg (by omega), g_up_1 (by decide)]; exact (c7 r hr)

theorem wEq_20 {m : gM} {g : Nat → Int32} {j : Nat} {v : Int32} (hj : j < 10) (c : wEq m g) : wEq (g_up m 20 j v) (upd g (589 + j) v) := by
  obtain ⟨c1, c2, c3, c4, c5, c6, c7⟩ := c
  refine ⟨?_, fun i hi => ?_, ?_, fun r hr => ?_, fun s hs => ?_, fun o ho => ?_, fun r hr => ?_⟩
  · unfold upd; rw [if_neg (by omega), g_up_1 (by decide)]; exact c1
  · unfold upd; rw [if_neg (by omega), g_up_1 (by decide)]; exact (c2 i hi)
  · unfold upd; rw [if_neg (by omega), g_up_1 (by decide)]; exact c3
  · obtain ⟨d1, d2, d3⟩ := c4 r hr
    refine ⟨?_, ?_, ?_⟩
    · unfold upd; rw [if_neg (by omega), g_up_1 (by decide)]; exact d1
    · unfold upd; rw [if_neg (by omega), g_up_1 (by decide)]; exact d2
    · unfold upd; rw [if_neg (by omega), g_up_1 (by decide)]; exact d3
  · obtain ⟨d0, d1, d2, d3, d4, d5, d6, d7, d8⟩ := c5 s hs
    refine ⟨?_, ?_, ?_, ?_, ?_, ?_, ?_, ?_, ?_⟩
    · unfold upd; rw [if_neg (by omega), g_up_1 (by decide)]; exact d0
    · unfold upd; rw [if_neg (by omega), g_up_1 (by decide)]; exact d1
    · unfold upd; rw [if_neg (by omega), g_up_1 (by decide)]; exact d2
    · unfold upd; rw [if_neg (by omega), g_up_1 (by decide)]; exact d3
    · unfold upd; rw [if_neg (by omega), g_up_1 (by decide)]; exact d4
    · unfold upd; rw [if_neg (by omega), g_up_1 (by decide)]; exact d5
    · unfold upd; rw [if_neg (by omega), g_up_1 (by decide)]; exact d6
    · unfold upd; rw [if_neg (by omega), g_up_1 (by decide)]; exact d7
    · unfold upd; rw [if_neg (by omega), g_up_1 (by decide)]; exact d8
  · by_cases e : o = j
    · subst e; rw [g_up_3]; unfold upd; rw [if_pos rfl]
    · rw [g_up_2 e]; unfold upd; rw [if_neg (by omega)]; exact (c6 o ho)
  · unfold upd; rw [if_neg (by omega), g_up_1 (by decide)]; exact (c7 r hr)

theorem wEq_21 {m : gM} {g : Nat → Int32} {j : Nat} {v : Int32} (hj : j < 6) (c : wEq m g) : wEq (g_up m 21 j v) (upd g (599 + j) v) := by
  obtain ⟨c1, c2, c3, c4, c5, c6, c7⟩ := c
  refine ⟨?_, fun i hi => ?_, ?_, fun r hr => ?_, fun s hs => ?_, fun o ho => ?_, fun r hr => ?_⟩
  · unfold upd; rw [if_neg (by omega), g_up_1 (by decide)]; exact c1
  · unfold upd; rw [if_neg (by omega), g_up_1 (by decide)]; exact (c2 i hi)
  · unfold upd; rw [if_neg (by omega), g_up_1 (by decide)]; exact c3
  · obtain ⟨d1, d2, d3⟩ := c4 r hr
    refine ⟨?_, ?_, ?_⟩
    · unfold upd; rw [if_neg (by omega), g_up_1 (by decide)]; exact d1
    · unfold upd; rw [if_neg (by omega), g_up_1 (by decide)]; exact d2
    · unfold upd; rw [if_neg (by omega), g_up_1 (by decide)]; exact d3
  · obtain ⟨d0, d1, d2, d3, d4, d5, d6, d7, d8⟩ := c5 s hs
    refine ⟨?_, ?_, ?_, ?_, ?_, ?_, ?_, ?_, ?_⟩
    · unfold upd; rw [if_neg (by omega), g_up_1 (by decide)]; exact d0
    · unfold upd; rw [if_neg (by omega), g_up_1 (by decide)]; exact d1
    · unfold upd; rw [if_neg (by omega), g_up_1 (by decide)]; exact d2
    · unfold upd; rw [if_neg (by omega), g_up_1 (by decide)]; exact d3
    · unfold upd; rw [if_neg (by omega), g_up_1 (by decide)]; exact d4
    · unfold upd; rw [if_neg (by omega), g_up_1 (by decide)]; exact d5
    · unfold upd; rw [if_neg (by omega), g_up_1 (by decide)]; exact d6
    · unfold upd; rw [if_neg (by omega), g_up_1 (by decide)]; exact d7
    · unfold upd; rw [if_neg (by omega), g_up_1 (by decide)]; exact d8
  · unfold upd; rw [if_neg (by omega), g_up_1 (by decide)]; exact (c6 o ho)
  · by_cases e : r = j
    · subst e; rw [g_up_3]; unfold upd; rw [if_pos rfl]
    · rw [g_up_2 e]; unfold upd; rw [if_neg (by omega)]; exact (c7 r hr)

theorem wEq_g606 {m : gM} {g : Nat → Int32} {v : Int32} (c : wEq m g) : wEq m (upd g 606 v) := by
  obtain ⟨c1, c2, c3, c4, c5, c6, c7⟩ := c
  refine ⟨?_, fun i hi => ?_, ?_, fun r hr => ?_, fun s hs => ?_, fun o ho => ?_, fun r hr => ?_⟩
  · unfold upd; rw [if_neg (by omega)]; exact c1
  · unfold upd; rw [if_neg (by omega)]; exact c2 i hi
  · unfold upd; rw [if_neg (by omega)]; exact c3
  · obtain ⟨d1, d2, d3⟩ := c4 r hr
    refine ⟨?_, ?_, ?_⟩
    · unfold upd; rw [if_neg (by omega)]; exact d1
    · unfold upd; rw [if_neg (by omega)]; exact d2
    · unfold upd; rw [if_neg (by omega)]; exact d3
  · obtain ⟨d0, d1, d2, d3, d4, d5, d6, d7, d8⟩ := c5 s hs
    refine ⟨?_, ?_, ?_, ?_, ?_, ?_, ?_, ?_, ?_⟩
    · unfold upd; rw [if_neg (by omega)]; exact d0
    · unfold upd; rw [if_neg (by omega)]; exact d1
    · unfold upd; rw [if_neg (by omega)]; exact d2
    · unfold upd; rw [if_neg (by omega)]; exact d3
    · unfold upd; rw [if_neg (by omega)]; exact d4
    · unfold upd; rw [if_neg (by omega)]; exact d5
    · unfold upd; rw [if_neg (by omega)]; exact d6
    · unfold upd; rw [if_neg (by omega)]; exact d7
    · unfold upd; rw [if_neg (by omega)]; exact d8
  · unfold upd; rw [if_neg (by omega)]; exact c6 o ho
  · unfold upd; rw [if_neg (by omega)]; exact c7 r hr

theorem wEq_g8 {m : gM} {g : Nat → Int32} {v : Int32} {j : Nat} (hj : j < 30) (c : wEq m g) : wEq m (upd g (j * 11 + 8) v) := by
  obtain ⟨c1, c2, c3, c4, c5, c6, c7⟩ := c
  refine ⟨?_, fun i hi => ?_, ?_, fun r hr => ?_, fun s hs => ?_, fun o ho => ?_, fun r hr => ?_⟩
  · unfold upd; rw [if_neg (by omega)]; exact c1
  · unfold upd; rw [if_neg (by omega)]; exact c2 i hi
  · unfold upd; rw [if_neg (by omega)]; exact c3
  · obtain ⟨d1, d2, d3⟩ := c4 r hr
    refine ⟨?_, ?_, ?_⟩
    · unfold upd; rw [if_neg (by omega)]; exact d1
    · unfold upd; rw [if_neg (by omega)]; exact d2
    · unfold upd; rw [if_neg (by omega)]; exact d3
  · obtain ⟨d0, d1, d2, d3, d4, d5, d6, d7, d8⟩ := c5 s hs
    refine ⟨?_, ?_, ?_, ?_, ?_, ?_, ?_, ?_, ?_⟩
    · unfold upd; rw [if_neg (by omega)]; exact d0
    · unfold upd; rw [if_neg (by omega)]; exact d1
    · unfold upd; rw [if_neg (by omega)]; exact d2
    · unfold upd; rw [if_neg (by omega)]; exact d3
    · unfold upd; rw [if_neg (by omega)]; exact d4
    · unfold upd; rw [if_neg (by omega)]; exact d5
    · unfold upd; rw [if_neg (by omega)]; exact d6
    · unfold upd; rw [if_neg (by omega)]; exact d7
    · unfold upd; rw [if_neg (by omega)]; exact d8
  · unfold upd; rw [if_neg (by omega)]; exact c6 o ho
  · unfold upd; rw [if_neg (by omega)]; exact c7 r hr

theorem wEq_g10 {m : gM} {g : Nat → Int32} {v : Int32} {j : Nat} (hj : j < 30) (c : wEq m g) : wEq m (upd g (j * 11 + 10) v) := by
  obtain ⟨c1, c2, c3, c4, c5, c6, c7⟩ := c
  refine ⟨?_, fun i hi => ?_, ?_, fun r hr => ?_, fun s hs => ?_, fun o ho => ?_, fun r hr => ?_⟩
  · unfold upd; rw [if_neg (by omega)]; exact c1
  · unfold upd; rw [if_neg (by omega)]; exact c2 i hi
  · unfold upd; rw [if_neg (by omega)]; exact c3
  · obtain ⟨d1, d2, d3⟩ := c4 r hr
    refine ⟨?_, ?_, ?_⟩
    · unfold upd; rw [if_neg (by omega)]; exact d1
    · unfold upd; rw [if_neg (by omega)]; exact d2
    · unfold upd; rw [if_neg (by omega)]; exact d3
  · obtain ⟨d0, d1, d2, d3, d4, d5, d6, d7, d8⟩ := c5 s hs
    refine ⟨?_, ?_, ?_, ?_, ?_, ?_, ?_, ?_, ?_⟩
    · unfold upd; rw [if_neg (by omega)]; exact d0
    · unfold upd; rw [if_neg (by omega)]; exact d1
    · unfold upd; rw [if_neg (by omega)]; exact d2
    · unfold upd; rw [if_neg (by omega)]; exact d3
    · unfold upd; rw [if_neg (by omega)]; exact d4
    · unfold upd; rw [if_neg (by omega)]; exact d5
    · unfold upd; rw [if_neg (by omega)]; exact d6
    · unfold upd; rw [if_neg (by omega)]; exact d7
    · unfold upd; rw [if_neg (by omega)]; exact d8
  · unfold upd; rw [if_neg (by omega)]; exact c6 o ho
  · unfold upd; rw [if_neg (by omega)]; exact c7 r hr

theorem wEq_m7 {m : gM} {g : Nat → Int32} {j : Nat} {v : Int32} (c : wEq m g) : wEq (g_up m 7 j v) g := c
theorem wEq_m18 {m : gM} {g : Nat → Int32} {j : Nat} {v : Int32} (c : wEq m g) : wEq (g_up m 18 j v) g := c
theorem wEq_m19 {m : gM} {g : Nat → Int32} {j : Nat} {v : Int32} (c : wEq m g) : wEq (g_up m 19 j v) g := c
def gFold {α : Type} (F : Nat → α → α) : Nat → α → α
  | 0, a => a
  | n + 1, a => F n (gFold F n a)
theorem g_for {α : Type} {W : Nat → α → Prop} {R : α → Prop} {F : Nat → α → α} {L : Nat} (hs : ∀ i, i < L → ∀ a, W i a = W (i + 1) (F i a)) (hf : ∀ a, W L a = R a) (a : α) : W 0 a = R (gFold F L a) := by
  rw [← hf]
  have key : ∀ k, k ≤ L → W 0 a = W k (gFold F k a) := by
    intro k
    induction k with
    | zero => intro _; rfl
    | succ k ih =>
      intro hk
      rw [ih (by omega), hs k (by omega)]
      rfl
  exact key L (Nat.le_refl _)
theorem gFold_congr {α : Type} {F F' : Nat → α → α} {L : Nat} (h : ∀ i, i < L → ∀ a, F i a = F' i a) (a : α) : gFold F L a = gFold F' L a := by
  induction L with
  | zero => rfl
  | succ L ih =>
    show F L (gFold F L a) = F' L (gFold F' L a)
    rw [ih (fun i hi => h i (by omega)), h L (by omega)]
theorem wMem_pin {B : Nat} {m : gM} {g : Nat → Int32} {j : Nat} {v : Int32} (h : wMem B m g) (hj : j < 30) (hv : gNn v 9) : wMem B (g_up m 15 j v) (upd g (j * 11 + 6) v) := by
  obtain ⟨⟨a1, a2, a3, a4⟩, b, c⟩ := h
  refine ⟨⟨wReg_c a1 (g_up_o (by decide)) (g_up_o (by decide)) (g_up_o (by decide)) (g_up_o (by decide)), fun s hs => ?_, wGrd_c a3 (g_up_o (by decide)) (g_up_o (by decide)) (g_up_o (by decide)) (g_up_o (by decide)), wRest_c a4 (Nat.le_refl _) rfl (g_up_o (by decide)) (g_up_o (by decide))⟩, wTag_c b (Nat.le_refl _) (g_up_o (by decide)) (g_up_o (by decide)) (g_up_o (by decide)) (g_up_o (by decide)) ?_ (fun s hs => ?_), wEq_15 hj c⟩
  · by_cases e : s = j
    · subst e
      obtain ⟨d1, d2, d3, d4, d5⟩ := a2 s hs
      refine ⟨d1, d2, d3, d4, fun z => ?_⟩
      obtain ⟨f1, f2, f3, f4, f5, f6, f7, f8, f9⟩ := d5 z
      exact ⟨f1, f2, f3, f4, f5, f6, f7, f8, by rw [g_up_3]; exact hv⟩
    · exact wSlot_c (a2 s hs) (Nat.le_refl _) (g_up_o (by decide)) (g_up_o (by decide)) (g_up_o (by decide)) rfl rfl rfl rfl rfl rfl (g_up_2 e) rfl rfl
  · unfold upd; rw [if_neg (by omega)]
  · unfold upd; rw [if_neg (by omega)]
theorem wMem_quota {B : Nat} {m : gM} {g : Nat → Int32} {j : Nat} {v : Int32} (h : wMem B m g) (hj : j < 10) (hv : gNn v 240) : wMem B (g_up m 20 j v) (upd g (589 + j) v) := by
  obtain ⟨⟨a1, a2, a3, a4, a5, a6⟩, b, c⟩ := h
  refine ⟨⟨wReg_c a1 (g_up_o (by decide)) (g_up_o (by decide)) (g_up_o (by decide)) (g_up_o (by decide)), fun s hs => wSlot_c (a2 s hs) (Nat.le_refl _) (g_up_o (by decide)) (g_up_o (by decide)) (g_up_o (by decide)) rfl rfl rfl rfl rfl rfl rfl rfl rfl, wGrd_c a3 (g_up_o (by decide)) (g_up_o (by decide)) (g_up_o (by decide)) (g_up_o (by decide)), a4, fun o ho => ?_, a6⟩, wTag_c b (Nat.le_refl _) (g_up_o (by decide)) (g_up_o (by decide)) (g_up_o (by decide)) (g_up_o (by decide)) ?_ (fun s hs => ?_), wEq_20 hj c⟩
  · by_cases e : o = j
    · subst e; rw [g_up_3]; exact hv
    · rw [g_up_2 e]; exact a5 o ho
  · unfold upd; rw [if_neg (by omega)]
  · unfold upd; rw [if_neg (by omega)]
theorem wMem_cell {B : Nat} {m : gM} {g : Nat → Int32} {j : Nat} {v : Int32} (h : wMem B m g) (hj : j < 240) : wMem B (g_up m 1 j v) (upd g (330 + j) v) := by
  obtain ⟨⟨a1, a2, a3, a4⟩, b, c⟩ := h
  refine ⟨⟨wReg_c a1 (g_up_o (by decide)) (g_up_o (by decide)) (g_up_o (by decide)) (g_up_o (by decide)), fun s hs => wSlot_c (a2 s hs) (Nat.le_refl _) (g_up_o (by decide)) (g_up_o (by decide)) (g_up_o (by decide)) rfl rfl rfl rfl rfl rfl rfl rfl rfl, wGrd_c a3 (g_up_o (by decide)) (g_up_o (by decide)) (g_up_o (by decide)) (g_up_o (by decide)), wRest_c a4 (Nat.le_refl _) rfl (g_up_o (by decide)) (g_up_o (by decide))⟩, wTag_c b (Nat.le_refl _) (g_up_o (by decide)) (g_up_o (by decide)) (g_up_o (by decide)) (g_up_o (by decide)) ?_ (fun s hs => ?_), wEq_1 hj c⟩
  · unfold upd; rw [if_neg (by omega)]
  · unfold upd; rw [if_neg (by omega)]
section L14
variable {G : gG} {d : Nat} {K : gK} {σ : gM}
/-- the cells that an owner has -/
def gUsedF (σ : gM) (o : Int32) (i : Nat) (acc : Int32) : Int32 := if σ 11 i = 0 then acc else if σ 15 i = o then acc + σ 13 i else acc
def gUsed (σ : gM) (o : Int32) : Int32 := gFold (gUsedF σ o) 30 0
theorem usedBy_eq (h : gOK G) {o : Int32} : g_inv (gCm' G (d + 1)) mX0_usedBy [.ref 9, .int o] σ K = K (some (.int (gUsed σ o))) σ := by
  rw [EX0_usedBy (hBlk h)]
  refine g_for (W := fun i acc => gw (gCm' G d) G mX0_usedBy K 4 [.ref 9, .int o, .int acc, .int (nI i)] [] σ) (R := fun acc => K (some (.int acc)) σ) (F := gUsedF σ o) (L := 30) (fun i hi acc => ?_) (fun acc => ?_) 0
  · obtain ⟨e1, e2, e3, e4, e5⟩ := g_ix (n := 29) hi (by decide)
    have e2 : nI i < 30 := e2
    rw [BX0_usedBy_4 (hBlk h)]
    unfold gUsedF
    simp only [e2, e4, e5, Option.toList_some, Option.toList_none, List.cons_append, List.nil_append, Nat.zero_add, Nat.reduceAdd, Option.some.injEq, Value.int.injEq, exists_eq_left', true_and, and_true, g_10, ↓reduceIte, nI_1]
    split
    · rfl
    · split <;> rfl
  · skip
    rw [BX0_usedBy_4 (hBlk h)]
    simp only [show ¬ nI 30 < 30 by decide, Option.toList_some, Option.toList_none, List.cons_append, List.nil_append, Nat.zero_add, Nat.reduceAdd, Option.some.injEq, Value.int.injEq, exists_eq_left', true_and, and_true, g_10, ↓reduceIte]
theorem used_eq (h : gOK G) {B : Nat} (hR : wRel B σ) {σ' : gM} (hq : σ' 105 = σ 105) {o : Int32} : g_inv (gCm' G (d + 2)) mX10_used [.ref 104, .int o] σ' K = K (some (.int (gUsed σ o))) σ' := by
  rw [EX10_used h.2]
  refine g_for (W := fun i acc => gw (gCm' G (d + 1)) G mX10_used K 4 [.ref 104, .int o, .int acc, .int (nI i)] [] σ') (R := fun acc => K (some (.int acc)) σ') (F := gUsedF σ o) (L := 30) (fun i hi acc => ?_) (fun acc => ?_) 0
  · obtain ⟨e1, e2, e3, e4, e5⟩ := g_ix (n := 29) hi (by decide)
    have e2 : nI i < 30 := e2
    rw [BX10_used_4 h.2]
    unfold gUsedF
    simp only [e2, e4, e5, Option.toList_some, Option.toList_none, List.cons_append, List.nil_append, Nat.zero_add, Nat.reduceAdd, Option.some.injEq, Value.int.injEq, exists_eq_left', true_and, and_true, g_10, ↓reduceIte, nI_1, at_0 h hi, at_3 h hi, at_5 h hi, BX10_used_17 h.2, BX10_used_26 h.2, BX10_used_36 h.2, hq, rs0 hR _ hi, rs3 hR _ hi, rs5 hR _ hi, Int32.add_zero]
    split
    · rfl
    · split <;> rfl
  · skip
    rw [BX10_used_4 h.2]
    simp only [show ¬ nI 30 < 30 by decide, Option.toList_some, Option.toList_none, List.cons_append, List.nil_append, Nat.zero_add, Nat.reduceAdd, Option.some.injEq, Value.int.injEq, exists_eq_left', true_and, and_true, g_10, ↓reduceIte]
end L14
