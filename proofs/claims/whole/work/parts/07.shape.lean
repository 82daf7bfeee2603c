/-- the shape of an object of 0 at a; it takes 10 places -/
def isX0 (G : gG) (a : Nat) : Prop := (G a).1 = 0 ∧ ((G a).2.2 0 = a + 1 ∧ (G (a + 1)).1 = 11 ∧ (G (a + 1)).2.1 = 30) ∧ ((G a).2.2 1 = a + 2 ∧ (G (a + 2)).1 = 11 ∧ (G (a + 2)).2.1 = 30) ∧ ((G a).2.2 2 = a + 3 ∧ (G (a + 3)).1 = 11 ∧ (G (a + 3)).2.1 = 30) ∧ ((G a).2.2 3 = a + 4 ∧ (G (a + 4)).1 = 11 ∧ (G (a + 4)).2.1 = 30) ∧ ((G a).2.2 4 = a + 5 ∧ (G (a + 5)).1 = 11 ∧ (G (a + 5)).2.1 = 30) ∧ ((G a).2.2 5 = a + 6 ∧ (G (a + 6)).1 = 11 ∧ (G (a + 6)).2.1 = 30) ∧ ((G a).2.2 6 = a + 7 ∧ (G (a + 7)).1 = 11 ∧ (G (a + 7)).2.1 = 30) ∧ ((G a).2.2 7 = a + 8 ∧ (G (a + 8)).1 = 11 ∧ (G (a + 8)).2.1 = 30) ∧ ((G a).2.2 8 = a + 9 ∧ (G (a + 9)).1 = 11 ∧ (G (a + 9)).2.1 = 30)
theorem kX0 {G : gG} {a : Nat} (h : isX0 G a) : (G a).1 = 0 := h.1
theorem sX0_0 {G : gG} {a : Nat} (h : isX0 G a) : (G a).2.2 0 = a + 1 := h.2.1.1
theorem aX0_0 {G : gG} {a : Nat} (h : isX0 G a) : (G (a + 1)).1 = 11 := h.2.1.2.1
theorem nX0_0 {G : gG} {a : Nat} (h : isX0 G a) : (G (a + 1)).2.1 = 30 := h.2.1.2.2
theorem sX0_1 {G : gG} {a : Nat} (h : isX0 G a) : (G a).2.2 1 = a + 2 := h.2.2.1.1
theorem aX0_1 {G : gG} {a : Nat} (h : isX0 G a) : (G (a + 2)).1 = 11 := h.2.2.1.2.1
theorem nX0_1 {G : gG} {a : Nat} (h : isX0 G a) : (G (a + 2)).2.1 = 30 := h.2.2.1.2.2
theorem sX0_2 {G : gG} {a : Nat} (h : isX0 G a) : (G a).2.2 2 = a + 3 := h.2.2.2.1.1
theorem aX0_2 {G : gG} {a : Nat} (h : isX0 G a) : (G (a + 3)).1 = 11 := h.2.2.2.1.2.1
theorem nX0_2 {G : gG} {a : Nat} (h : isX0 G a) : (G (a + 3)).2.1 = 30 := h.2.2.2.1.2.2
theorem sX0_3 {G : gG} {a : Nat} (h : isX0 G a) : (G a).2.2 3 = a + 4 := h.2.2.2.2.1.1
theorem aX0_3 {G : gG} {a : Nat} (h : isX0 G a) : (G (a + 4)).1 = 11 := h.2.2.2.2.1.2.1
theorem nX0_3 {G : gG} {a : Nat} (h : isX0 G a) : (G (a + 4)).2.1 = 30 := h.2.2.2.2.1.2.2
theorem sX0_4 {G : gG} {a : Nat} (h : isX0 G a) : (G a).2.2 4 = a + 5 := h.2.2.2.2.2.1.1
theorem aX0_4 {G : gG} {a : Nat} (h : isX0 G a) : (G (a + 5)).1 = 11 := h.2.2.2.2.2.1.2.1
theorem nX0_4 {G : gG} {a : Nat} (h : isX0 G a) : (G (a + 5)).2.1 = 30 := h.2.2.2.2.2.1.2.2
theorem sX0_5 {G : gG} {a : Nat} (h : isX0 G a) : (G a).2.2 5 = a + 6 := h.2.2.2.2.2.2.1.1
theorem aX0_5 {G : gG} {a : Nat} (h : isX0 G a) : (G (a + 6)).1 = 11 := h.2.2.2.2.2.2.1.2.1
theorem nX0_5 {G : gG} {a : Nat} (h : isX0 G a) : (G (a + 6)).2.1 = 30 := h.2.2.2.2.2.2.1.2.2
theorem sX0_6 {G : gG} {a : Nat} (h : isX0 G a) : (G a).2.2 6 = a + 7 := h.2.2.2.2.2.2.2.1.1
theorem aX0_6 {G : gG} {a : Nat} (h : isX0 G a) : (G (a + 7)).1 = 11 := h.2.2.2.2.2.2.2.1.2.1
theorem nX0_6 {G : gG} {a : Nat} (h : isX0 G a) : (G (a + 7)).2.1 = 30 := h.2.2.2.2.2.2.2.1.2.2
theorem sX0_7 {G : gG} {a : Nat} (h : isX0 G a) : (G a).2.2 7 = a + 8 := h.2.2.2.2.2.2.2.2.1.1
theorem aX0_7 {G : gG} {a : Nat} (h : isX0 G a) : (G (a + 8)).1 = 11 := h.2.2.2.2.2.2.2.2.1.2.1
theorem nX0_7 {G : gG} {a : Nat} (h : isX0 G a) : (G (a + 8)).2.1 = 30 := h.2.2.2.2.2.2.2.2.1.2.2
theorem sX0_8 {G : gG} {a : Nat} (h : isX0 G a) : (G a).2.2 8 = a + 9 := h.2.2.2.2.2.2.2.2.2.1
theorem aX0_8 {G : gG} {a : Nat} (h : isX0 G a) : (G (a + 9)).1 = 11 := h.2.2.2.2.2.2.2.2.2.2.1
theorem nX0_8 {G : gG} {a : Nat} (h : isX0 G a) : (G (a + 9)).2.1 = 30 := h.2.2.2.2.2.2.2.2.2.2.2
/-- the shape of an object of 1 at a; it takes 2 places -/
def isX1 (G : gG) (a : Nat) : Prop := (G a).1 = 1 ∧ ((G a).2.2 0 = a + 1 ∧ (G (a + 1)).1 = 11 ∧ (G (a + 1)).2.1 = 240)
theorem kX1 {G : gG} {a : Nat} (h : isX1 G a) : (G a).1 = 1 := h.1
theorem sX1_0 {G : gG} {a : Nat} (h : isX1 G a) : (G a).2.2 0 = a + 1 := h.2.1
theorem aX1_0 {G : gG} {a : Nat} (h : isX1 G a) : (G (a + 1)).1 = 11 := h.2.2.1
theorem nX1_0 {G : gG} {a : Nat} (h : isX1 G a) : (G (a + 1)).2.1 = 240 := h.2.2.2
/-- the shape of an object of 2 at a; it takes 5 places -/
def isX2 (G : gG) (a : Nat) : Prop := (G a).1 = 2 ∧ ((G a).2.2 0 = a + 1 ∧ (G (a + 1)).1 = 11 ∧ (G (a + 1)).2.1 = 6) ∧ ((G a).2.2 1 = a + 2 ∧ (G (a + 2)).1 = 11 ∧ (G (a + 2)).2.1 = 6) ∧ ((G a).2.2 2 = a + 3 ∧ (G (a + 3)).1 = 11 ∧ (G (a + 3)).2.1 = 6) ∧ ((G a).2.2 3 = a + 4 ∧ (G (a + 4)).1 = 11 ∧ (G (a + 4)).2.1 = 360)
theorem kX2 {G : gG} {a : Nat} (h : isX2 G a) : (G a).1 = 2 := h.1
theorem sX2_0 {G : gG} {a : Nat} (h : isX2 G a) : (G a).2.2 0 = a + 1 := h.2.1.1
theorem aX2_0 {G : gG} {a : Nat} (h : isX2 G a) : (G (a + 1)).1 = 11 := h.2.1.2.1
theorem nX2_0 {G : gG} {a : Nat} (h : isX2 G a) : (G (a + 1)).2.1 = 6 := h.2.1.2.2
theorem sX2_1 {G : gG} {a : Nat} (h : isX2 G a) : (G a).2.2 1 = a + 2 := h.2.2.1.1
theorem aX2_1 {G : gG} {a : Nat} (h : isX2 G a) : (G (a + 2)).1 = 11 := h.2.2.1.2.1
theorem nX2_1 {G : gG} {a : Nat} (h : isX2 G a) : (G (a + 2)).2.1 = 6 := h.2.2.1.2.2
theorem sX2_2 {G : gG} {a : Nat} (h : isX2 G a) : (G a).2.2 2 = a + 3 := h.2.2.2.1.1
theorem aX2_2 {G : gG} {a : Nat} (h : isX2 G a) : (G (a + 3)).1 = 11 := h.2.2.2.1.2.1
theorem nX2_2 {G : gG} {a : Nat} (h : isX2 G a) : (G (a + 3)).2.1 = 6 := h.2.2.2.1.2.2
theorem sX2_3 {G : gG} {a : Nat} (h : isX2 G a) : (G a).2.2 3 = a + 4 := h.2.2.2.2.1
theorem aX2_3 {G : gG} {a : Nat} (h : isX2 G a) : (G (a + 4)).1 = 11 := h.2.2.2.2.2.1
theorem nX2_3 {G : gG} {a : Nat} (h : isX2 G a) : (G (a + 4)).2.1 = 360 := h.2.2.2.2.2.2
/-- the shape of an object of 4 at a; it takes 3 places -/
def isX4 (G : gG) (a : Nat) : Prop := (G a).1 = 4 ∧ ((G a).2.2 1 = a + 1 ∧ (G (a + 1)).1 = 11 ∧ (G (a + 1)).2.1 = 60) ∧ ((G a).2.2 2 = a + 2 ∧ (G (a + 2)).1 = 11 ∧ (G (a + 2)).2.1 = 60)
theorem kX4 {G : gG} {a : Nat} (h : isX4 G a) : (G a).1 = 4 := h.1
theorem sX4_1 {G : gG} {a : Nat} (h : isX4 G a) : (G a).2.2 1 = a + 1 := h.2.1.1
theorem aX4_1 {G : gG} {a : Nat} (h : isX4 G a) : (G (a + 1)).1 = 11 := h.2.1.2.1
theorem nX4_1 {G : gG} {a : Nat} (h : isX4 G a) : (G (a + 1)).2.1 = 60 := h.2.1.2.2
theorem sX4_2 {G : gG} {a : Nat} (h : isX4 G a) : (G a).2.2 2 = a + 2 := h.2.2.1
theorem aX4_2 {G : gG} {a : Nat} (h : isX4 G a) : (G (a + 2)).1 = 11 := h.2.2.2.1
theorem nX4_2 {G : gG} {a : Nat} (h : isX4 G a) : (G (a + 2)).2.1 = 60 := h.2.2.2.2
/-- the shape of an object of 5 at a; it takes 4 places -/
def isX5 (G : gG) (a : Nat) : Prop := (G a).1 = 5 ∧ ((G a).2.2 1 = a + 1 ∧ (G (a + 1)).1 = 11 ∧ (G (a + 1)).2.1 = 6) ∧ ((G a).2.2 2 = a + 2 ∧ (G (a + 2)).1 = 11 ∧ (G (a + 2)).2.1 = 6) ∧ ((G a).2.2 3 = a + 3 ∧ (G (a + 3)).1 = 11 ∧ (G (a + 3)).2.1 = 6)
theorem kX5 {G : gG} {a : Nat} (h : isX5 G a) : (G a).1 = 5 := h.1
theorem sX5_1 {G : gG} {a : Nat} (h : isX5 G a) : (G a).2.2 1 = a + 1 := h.2.1.1
theorem aX5_1 {G : gG} {a : Nat} (h : isX5 G a) : (G (a + 1)).1 = 11 := h.2.1.2.1
theorem nX5_1 {G : gG} {a : Nat} (h : isX5 G a) : (G (a + 1)).2.1 = 6 := h.2.1.2.2
theorem sX5_2 {G : gG} {a : Nat} (h : isX5 G a) : (G a).2.2 2 = a + 2 := h.2.2.1.1
theorem aX5_2 {G : gG} {a : Nat} (h : isX5 G a) : (G (a + 2)).1 = 11 := h.2.2.1.2.1
theorem nX5_2 {G : gG} {a : Nat} (h : isX5 G a) : (G (a + 2)).2.1 = 6 := h.2.2.1.2.2
theorem sX5_3 {G : gG} {a : Nat} (h : isX5 G a) : (G a).2.2 3 = a + 3 := h.2.2.2.1
theorem aX5_3 {G : gG} {a : Nat} (h : isX5 G a) : (G (a + 3)).1 = 11 := h.2.2.2.2.1
theorem nX5_3 {G : gG} {a : Nat} (h : isX5 G a) : (G (a + 3)).2.1 = 6 := h.2.2.2.2.2
/-- the shape of an object of 6 at a; it takes 2 places -/
def isX6 (G : gG) (a : Nat) : Prop := (G a).1 = 6 ∧ ((G a).2.2 1 = a + 1 ∧ (G (a + 1)).1 = 11 ∧ (G (a + 1)).2.1 = 30)
theorem kX6 {G : gG} {a : Nat} (h : isX6 G a) : (G a).1 = 6 := h.1
theorem sX6_1 {G : gG} {a : Nat} (h : isX6 G a) : (G a).2.2 1 = a + 1 := h.2.1
theorem aX6_1 {G : gG} {a : Nat} (h : isX6 G a) : (G (a + 1)).1 = 11 := h.2.2.1
theorem nX6_1 {G : gG} {a : Nat} (h : isX6 G a) : (G (a + 1)).2.1 = 30 := h.2.2.2
/-- the shape of an object of 7 at a; it takes 4 places -/
def isX7 (G : gG) (a : Nat) : Prop := (G a).1 = 7 ∧ ((G a).2.2 1 = a + 1 ∧ (G (a + 1)).1 = 11 ∧ (G (a + 1)).2.1 = 120) ∧ ((G a).2.2 4 = a + 2 ∧ (G (a + 2)).1 = 11 ∧ (G (a + 2)).2.1 = 60) ∧ ((G a).2.2 5 = a + 3 ∧ (G (a + 3)).1 = 11 ∧ (G (a + 3)).2.1 = 180)
theorem kX7 {G : gG} {a : Nat} (h : isX7 G a) : (G a).1 = 7 := h.1
theorem sX7_1 {G : gG} {a : Nat} (h : isX7 G a) : (G a).2.2 1 = a + 1 := h.2.1.1
theorem aX7_1 {G : gG} {a : Nat} (h : isX7 G a) : (G (a + 1)).1 = 11 := h.2.1.2.1
theorem nX7_1 {G : gG} {a : Nat} (h : isX7 G a) : (G (a + 1)).2.1 = 120 := h.2.1.2.2
theorem sX7_4 {G : gG} {a : Nat} (h : isX7 G a) : (G a).2.2 4 = a + 2 := h.2.2.1.1
theorem aX7_4 {G : gG} {a : Nat} (h : isX7 G a) : (G (a + 2)).1 = 11 := h.2.2.1.2.1
theorem nX7_4 {G : gG} {a : Nat} (h : isX7 G a) : (G (a + 2)).2.1 = 60 := h.2.2.1.2.2
theorem sX7_5 {G : gG} {a : Nat} (h : isX7 G a) : (G a).2.2 5 = a + 3 := h.2.2.2.1
theorem aX7_5 {G : gG} {a : Nat} (h : isX7 G a) : (G (a + 3)).1 = 11 := h.2.2.2.2.1
theorem nX7_5 {G : gG} {a : Nat} (h : isX7 G a) : (G (a + 3)).2.1 = 180 := h.2.2.2.2.2
/-- the shape of an object of 8 at a; it takes 3 places -/
def isX8 (G : gG) (a : Nat) : Prop := (G a).1 = 8 ∧ ((G a).2.2 0 = a + 1 ∧ (G (a + 1)).1 = 11 ∧ (G (a + 1)).2.1 = 30) ∧ ((G a).2.2 1 = a + 2 ∧ (G (a + 2)).1 = 11 ∧ (G (a + 2)).2.1 = 30)
theorem kX8 {G : gG} {a : Nat} (h : isX8 G a) : (G a).1 = 8 := h.1
theorem sX8_0 {G : gG} {a : Nat} (h : isX8 G a) : (G a).2.2 0 = a + 1 := h.2.1.1
theorem aX8_0 {G : gG} {a : Nat} (h : isX8 G a) : (G (a + 1)).1 = 11 := h.2.1.2.1
theorem nX8_0 {G : gG} {a : Nat} (h : isX8 G a) : (G (a + 1)).2.1 = 30 := h.2.1.2.2
theorem sX8_1 {G : gG} {a : Nat} (h : isX8 G a) : (G a).2.2 1 = a + 2 := h.2.2.1
theorem aX8_1 {G : gG} {a : Nat} (h : isX8 G a) : (G (a + 2)).1 = 11 := h.2.2.2.1
theorem nX8_1 {G : gG} {a : Nat} (h : isX8 G a) : (G (a + 2)).2.1 = 30 := h.2.2.2.2
/-- the shape of an object of 3 at a; it takes 22 places -/
def isX3 (G : gG) (a : Nat) : Prop := (G a).1 = 3 ∧ ((G a).2.2 1 = a + 1 ∧ (G (a + 1)).1 = 11 ∧ (G (a + 1)).2.1 = 240) ∧ ((G a).2.2 2 = a + 2 ∧ isX5 G (a + 2)) ∧ ((G a).2.2 3 = a + 6 ∧ isX1 G (a + 6)) ∧ ((G a).2.2 4 = a + 8 ∧ isX0 G (a + 8)) ∧ ((G a).2.2 5 = a + 18 ∧ isX6 G (a + 18)) ∧ ((G a).2.2 6 = a + 20 ∧ (G (a + 20)).1 = 11 ∧ (G (a + 20)).2.1 = 10) ∧ ((G a).2.2 7 = a + 21 ∧ (G (a + 21)).1 = 11 ∧ (G (a + 21)).2.1 = 6)
theorem kX3 {G : gG} {a : Nat} (h : isX3 G a) : (G a).1 = 3 := h.1
theorem sX3_1 {G : gG} {a : Nat} (h : isX3 G a) : (G a).2.2 1 = a + 1 := h.2.1.1
theorem aX3_1 {G : gG} {a : Nat} (h : isX3 G a) : (G (a + 1)).1 = 11 := h.2.1.2.1
theorem nX3_1 {G : gG} {a : Nat} (h : isX3 G a) : (G (a + 1)).2.1 = 240 := h.2.1.2.2
theorem sX3_2 {G : gG} {a : Nat} (h : isX3 G a) : (G a).2.2 2 = a + 2 := h.2.2.1.1
theorem iX3_2 {G : gG} {a : Nat} (h : isX3 G a) : isX5 G (a + 2) := h.2.2.1.2
theorem sX3_3 {G : gG} {a : Nat} (h : isX3 G a) : (G a).2.2 3 = a + 6 := h.2.2.2.1.1
theorem iX3_3 {G : gG} {a : Nat} (h : isX3 G a) : isX1 G (a + 6) := h.2.2.2.1.2
theorem sX3_4 {G : gG} {a : Nat} (h : isX3 G a) : (G a).2.2 4 = a + 8 := h.2.2.2.2.1.1
theorem iX3_4 {G : gG} {a : Nat} (h : isX3 G a) : isX0 G (a + 8) := h.2.2.2.2.1.2
theorem sX3_5 {G : gG} {a : Nat} (h : isX3 G a) : (G a).2.2 5 = a + 18 := h.2.2.2.2.2.1.1
theorem iX3_5 {G : gG} {a : Nat} (h : isX3 G a) : isX6 G (a + 18) := h.2.2.2.2.2.1.2
theorem sX3_6 {G : gG} {a : Nat} (h : isX3 G a) : (G a).2.2 6 = a + 20 := h.2.2.2.2.2.2.1.1
theorem aX3_6 {G : gG} {a : Nat} (h : isX3 G a) : (G (a + 20)).1 = 11 := h.2.2.2.2.2.2.1.2.1
theorem nX3_6 {G : gG} {a : Nat} (h : isX3 G a) : (G (a + 20)).2.1 = 10 := h.2.2.2.2.2.2.1.2.2
theorem sX3_7 {G : gG} {a : Nat} (h : isX3 G a) : (G a).2.2 7 = a + 21 := h.2.2.2.2.2.2.2.1
theorem aX3_7 {G : gG} {a : Nat} (h : isX3 G a) : (G (a + 21)).1 = 11 := h.2.2.2.2.2.2.2.2.1
theorem nX3_7 {G : gG} {a : Nat} (h : isX3 G a) : (G (a + 21)).2.1 = 6 := h.2.2.2.2.2.2.2.2.2
/-- the shape of an object of 9 at a; it takes 104 places -/
def isX9 (G : gG) (a : Nat) : Prop := (G a).1 = 9 ∧ ((G a).2.2 0 = a + 1 ∧ isX3 G (a + 1)) ∧ ((G a).2.2 1 = a + 23 ∧ isX3 G (a + 23)) ∧ ((G a).2.2 2 = a + 45 ∧ isX3 G (a + 45)) ∧ ((G a).2.2 3 = a + 67 ∧ isX3 G (a + 67)) ∧ ((G a).2.2 4 = a + 89 ∧ isX8 G (a + 89)) ∧ ((G a).2.2 5 = a + 92 ∧ isX4 G (a + 92)) ∧ ((G a).2.2 6 = a + 95 ∧ isX7 G (a + 95)) ∧ ((G a).2.2 7 = a + 99 ∧ isX2 G (a + 99))
theorem kX9 {G : gG} {a : Nat} (h : isX9 G a) : (G a).1 = 9 := h.1
theorem sX9_0 {G : gG} {a : Nat} (h : isX9 G a) : (G a).2.2 0 = a + 1 := h.2.1.1
theorem iX9_0 {G : gG} {a : Nat} (h : isX9 G a) : isX3 G (a + 1) := h.2.1.2
theorem sX9_1 {G : gG} {a : Nat} (h : isX9 G a) : (G a).2.2 1 = a + 23 := h.2.2.1.1
theorem iX9_1 {G : gG} {a : Nat} (h : isX9 G a) : isX3 G (a + 23) := h.2.2.1.2
theorem sX9_2 {G : gG} {a : Nat} (h : isX9 G a) : (G a).2.2 2 = a + 45 := h.2.2.2.1.1
theorem iX9_2 {G : gG} {a : Nat} (h : isX9 G a) : isX3 G (a + 45) := h.2.2.2.1.2
theorem sX9_3 {G : gG} {a : Nat} (h : isX9 G a) : (G a).2.2 3 = a + 67 := h.2.2.2.2.1.1
theorem iX9_3 {G : gG} {a : Nat} (h : isX9 G a) : isX3 G (a + 67) := h.2.2.2.2.1.2
theorem sX9_4 {G : gG} {a : Nat} (h : isX9 G a) : (G a).2.2 4 = a + 89 := h.2.2.2.2.2.1.1
theorem iX9_4 {G : gG} {a : Nat} (h : isX9 G a) : isX8 G (a + 89) := h.2.2.2.2.2.1.2
theorem sX9_5 {G : gG} {a : Nat} (h : isX9 G a) : (G a).2.2 5 = a + 92 := h.2.2.2.2.2.2.1.1
theorem iX9_5 {G : gG} {a : Nat} (h : isX9 G a) : isX4 G (a + 92) := h.2.2.2.2.2.2.1.2
theorem sX9_6 {G : gG} {a : Nat} (h : isX9 G a) : (G a).2.2 6 = a + 95 := h.2.2.2.2.2.2.2.1.1
theorem iX9_6 {G : gG} {a : Nat} (h : isX9 G a) : isX7 G (a + 95) := h.2.2.2.2.2.2.2.1.2
theorem sX9_7 {G : gG} {a : Nat} (h : isX9 G a) : (G a).2.2 7 = a + 99 := h.2.2.2.2.2.2.2.2.1
theorem iX9_7 {G : gG} {a : Nat} (h : isX9 G a) : isX2 G (a + 99) := h.2.2.2.2.2.2.2.2.2
/-- the shape of an object of 10 at a; it takes 22 places -/
def isX10 (G : gG) (a : Nat) : Prop := (G a).1 = 10 ∧ ((G a).2.2 0 = a + 1 ∧ (G (a + 1)).1 = 11 ∧ (G (a + 1)).2.1 = 607) ∧ ((G a).2.2 1 = a + 2 ∧ (G (a + 2)).1 = 11 ∧ (G (a + 2)).2.1 = 607) ∧ ((G a).2.2 2 = a + 3 ∧ (G (a + 3)).1 = 11 ∧ (G (a + 3)).2.1 = 607) ∧ ((G a).2.2 3 = a + 4 ∧ (G (a + 4)).1 = 11 ∧ (G (a + 4)).2.1 = 607) ∧ ((G a).2.2 5 = a + 5 ∧ (G (a + 5)).1 = 11 ∧ (G (a + 5)).2.1 = 240) ∧ ((G a).2.2 6 = a + 6 ∧ (G (a + 6)).1 = 11 ∧ (G (a + 6)).2.1 = 240) ∧ ((G a).2.2 7 = a + 7 ∧ (G (a + 7)).1 = 11 ∧ (G (a + 7)).2.1 = 60) ∧ ((G a).2.2 8 = a + 8 ∧ (G (a + 8)).1 = 11 ∧ (G (a + 8)).2.1 = 30) ∧ ((G a).2.2 9 = a + 9 ∧ (G (a + 9)).1 = 11 ∧ (G (a + 9)).2.1 = 30) ∧ ((G a).2.2 10 = a + 10 ∧ (G (a + 10)).1 = 11 ∧ (G (a + 10)).2.1 = 120) ∧ ((G a).2.2 12 = a + 11 ∧ (G (a + 11)).1 = 11 ∧ (G (a + 11)).2.1 = 6) ∧ ((G a).2.2 13 = a + 12 ∧ (G (a + 12)).1 = 11 ∧ (G (a + 12)).2.1 = 6) ∧ ((G a).2.2 14 = a + 13 ∧ (G (a + 13)).1 = 11 ∧ (G (a + 13)).2.1 = 6) ∧ ((G a).2.2 15 = a + 14 ∧ (G (a + 14)).1 = 12 ∧ (G (a + 14)).2.1 = 6 ∧ ∀ j, j < 6 → (G (a + 14)).2.2 j = a + 15 + j ∧ (G (a + 15 + j)).1 = 11 ∧ (G (a + 15 + j)).2.1 = 60) ∧ ((G a).2.2 18 = a + 21 ∧ (G (a + 21)).1 = 11 ∧ (G (a + 21)).2.1 = 3)
theorem kX10 {G : gG} {a : Nat} (h : isX10 G a) : (G a).1 = 10 := h.1
theorem sX10_0 {G : gG} {a : Nat} (h : isX10 G a) : (G a).2.2 0 = a + 1 := h.2.1.1
theorem aX10_0 {G : gG} {a : Nat} (h : isX10 G a) : (G (a + 1)).1 = 11 := h.2.1.2.1
theorem nX10_0 {G : gG} {a : Nat} (h : isX10 G a) : (G (a + 1)).2.1 = 607 := h.2.1.2.2
theorem sX10_1 {G : gG} {a : Nat} (h : isX10 G a) : (G a).2.2 1 = a + 2 := h.2.2.1.1
theorem aX10_1 {G : gG} {a : Nat} (h : isX10 G a) : (G (a + 2)).1 = 11 := h.2.2.1.2.1
theorem nX10_1 {G : gG} {a : Nat} (h : isX10 G a) : (G (a + 2)).2.1 = 607 := h.2.2.1.2.2
theorem sX10_2 {G : gG} {a : Nat} (h : isX10 G a) : (G a).2.2 2 = a + 3 := h.2.2.2.1.1
theorem aX10_2 {G : gG} {a : Nat} (h : isX10 G a) : (G (a + 3)).1 = 11 := h.2.2.2.1.2.1
theorem nX10_2 {G : gG} {a : Nat} (h : isX10 G a) : (G (a + 3)).2.1 = 607 := h.2.2.2.1.2.2
theorem sX10_3 {G : gG} {a : Nat} (h : isX10 G a) : (G a).2.2 3 = a + 4 := h.2.2.2.2.1.1
theorem aX10_3 {G : gG} {a : Nat} (h : isX10 G a) : (G (a + 4)).1 = 11 := h.2.2.2.2.1.2.1
theorem nX10_3 {G : gG} {a : Nat} (h : isX10 G a) : (G (a + 4)).2.1 = 607 := h.2.2.2.2.1.2.2
theorem sX10_5 {G : gG} {a : Nat} (h : isX10 G a) : (G a).2.2 5 = a + 5 := h.2.2.2.2.2.1.1
theorem aX10_5 {G : gG} {a : Nat} (h : isX10 G a) : (G (a + 5)).1 = 11 := h.2.2.2.2.2.1.2.1
theorem nX10_5 {G : gG} {a : Nat} (h : isX10 G a) : (G (a + 5)).2.1 = 240 := h.2.2.2.2.2.1.2.2
theorem sX10_6 {G : gG} {a : Nat} (h : isX10 G a) : (G a).2.2 6 = a + 6 := h.2.2.2.2.2.2.1.1
theorem aX10_6 {G : gG} {a : Nat} (h : isX10 G a) : (G (a + 6)).1 = 11 := h.2.2.2.2.2.2.1.2.1
theorem nX10_6 {G : gG} {a : Nat} (h : isX10 G a) : (G (a + 6)).2.1 = 240 := h.2.2.2.2.2.2.1.2.2
theorem sX10_7 {G : gG} {a : Nat} (h : isX10 G a) : (G a).2.2 7 = a + 7 := h.2.2.2.2.2.2.2.1.1
theorem aX10_7 {G : gG} {a : Nat} (h : isX10 G a) : (G (a + 7)).1 = 11 := h.2.2.2.2.2.2.2.1.2.1
theorem nX10_7 {G : gG} {a : Nat} (h : isX10 G a) : (G (a + 7)).2.1 = 60 := h.2.2.2.2.2.2.2.1.2.2
theorem sX10_8 {G : gG} {a : Nat} (h : isX10 G a) : (G a).2.2 8 = a + 8 := h.2.2.2.2.2.2.2.2.1.1
theorem aX10_8 {G : gG} {a : Nat} (h : isX10 G a) : (G (a + 8)).1 = 11 := h.2.2.2.2.2.2.2.2.1.2.1
theorem nX10_8 {G : gG} {a : Nat} (h : isX10 G a) : (G (a + 8)).2.1 = 30 := h.2.2.2.2.2.2.2.2.1.2.2
theorem sX10_9 {G : gG} {a : Nat} (h : isX10 G a) : (G a).2.2 9 = a + 9 := h.2.2.2.2.2.2.2.2.2.1.1
theorem aX10_9 {G : gG} {a : Nat} (h : isX10 G a) : (G (a + 9)).1 = 11 := h.2.2.2.2.2.2.2.2.2.1.2.1
theorem nX10_9 {G : gG} {a : Nat} (h : isX10 G a) : (G (a + 9)).2.1 = 30 := h.2.2.2.2.2.2.2.2.2.1.2.2
theorem sX10_10 {G : gG} {a : Nat} (h : isX10 G a) : (G a).2.2 10 = a + 10 := h.2.2.2.2.2.2.2.2.2.2.1.1
theorem aX10_10 {G : gG} {a : Nat} (h : isX10 G a) : (G (a + 10)).1 = 11 := h.2.2.2.2.2.2.2.2.2.2.1.2.1
theorem nX10_10 {G : gG} {a : Nat} (h : isX10 G a) : (G (a + 10)).2.1 = 120 := h.2.2.2.2.2.2.2.2.2.2.1.2.2
theorem sX10_12 {G : gG} {a : Nat} (h : isX10 G a) : (G a).2.2 12 = a + 11 := h.2.2.2.2.2.2.2.2.2.2.2.1.1
theorem aX10_12 {G : gG} {a : Nat} (h : isX10 G a) : (G (a + 11)).1 = 11 := h.2.2.2.2.2.2.2.2.2.2.2.1.2.1
theorem nX10_12 {G : gG} {a : Nat} (h : isX10 G a) : (G (a + 11)).2.1 = 6 := h.2.2.2.2.2.2.2.2.2.2.2.1.2.2
theorem sX10_13 {G : gG} {a : Nat} (h : isX10 G a) : (G a).2.2 13 = a + 12 := h.2.2.2.2.2.2.2.2.2.2.2.2.1.1
theorem aX10_13 {G : gG} {a : Nat} (h : isX10 G a) : (G (a + 12)).1 = 11 := h.2.2.2.2.2.2.2.2.2.2.2.2.1.2.1
theorem nX10_13 {G : gG} {a : Nat} (h : isX10 G a) : (G (a + 12)).2.1 = 6 := h.2.2.2.2.2.2.2.2.2.2.2.2.1.2.2
theorem sX10_14 {G : gG} {a : Nat} (h : isX10 G a) : (G a).2.2 14 = a + 13 := h.2.2.2.2.2.2.2.2.2.2.2.2.2.1.1
theorem aX10_14 {G : gG} {a : Nat} (h : isX10 G a) : (G (a + 13)).1 = 11 := h.2.2.2.2.2.2.2.2.2.2.2.2.2.1.2.1
theorem nX10_14 {G : gG} {a : Nat} (h : isX10 G a) : (G (a + 13)).2.1 = 6 := h.2.2.2.2.2.2.2.2.2.2.2.2.2.1.2.2
theorem sX10_15 {G : gG} {a : Nat} (h : isX10 G a) : (G a).2.2 15 = a + 14 := h.2.2.2.2.2.2.2.2.2.2.2.2.2.2.1.1
theorem aX10_15 {G : gG} {a : Nat} (h : isX10 G a) : (G (a + 14)).1 = 12 := h.2.2.2.2.2.2.2.2.2.2.2.2.2.2.1.2.1
theorem nX10_15 {G : gG} {a : Nat} (h : isX10 G a) : (G (a + 14)).2.1 = 6 := h.2.2.2.2.2.2.2.2.2.2.2.2.2.2.1.2.2.1
theorem rX10_15 {G : gG} {a : Nat} (h : isX10 G a) : ∀ j, j < 6 → (G (a + 14)).2.2 j = a + 15 + j ∧ (G (a + 15 + j)).1 = 11 ∧ (G (a + 15 + j)).2.1 = 60 := h.2.2.2.2.2.2.2.2.2.2.2.2.2.2.1.2.2.2
theorem sX10_18 {G : gG} {a : Nat} (h : isX10 G a) : (G a).2.2 18 = a + 21 := h.2.2.2.2.2.2.2.2.2.2.2.2.2.2.2.1
theorem aX10_18 {G : gG} {a : Nat} (h : isX10 G a) : (G (a + 21)).1 = 11 := h.2.2.2.2.2.2.2.2.2.2.2.2.2.2.2.2.1
theorem nX10_18 {G : gG} {a : Nat} (h : isX10 G a) : (G (a + 21)).2.1 = 3 := h.2.2.2.2.2.2.2.2.2.2.2.2.2.2.2.2.2
theorem vp_lt {i : Int32} {n : Nat} (h : vp_in i n) : i.toNatClampNeg < n := Nat.not_le.mp fun q => h (Or.inr q)
theorem g_cjr {p q q' : Prop} (h : p → q = q') : (p ∧ q) = (p ∧ q') := propext ⟨fun ⟨a, b⟩ => ⟨a, (h a) ▸ b⟩, fun ⟨a, b⟩ => ⟨a, (h a).symm ▸ b⟩⟩
