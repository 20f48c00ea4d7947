section
/-! EDWARDS. a x^2 + y^2 = 1 + d x^2 y^2, a a square, d none: the law is complete, closed, associative. No word of the machine here. -/
def ed_K {F : Type} [Lean.Grind.CommRing F] (a d i : F) (iv : F → F) : Prop := (∀ x y : F, x * y = 0 → x = 0 ∨ y = 0) ∧ (∀ x : F, x ≠ 0 → x * iv x = 1) ∧ ((1 : F) ≠ 0 ∧ (1 : F) + 1 ≠ 0) ∧ (i * i = a ∧ a ≠ 0) ∧ (∀ s : F, s * s ≠ d)
def ed_qx1_0 {F : Type} [Lean.Grind.CommRing F] (a d x1 y1 x2 y2 x3 y3 : F) : F := y1 * x2 * y2 * y2 * y2 * y2 * x3 * x3 * y3 * d + y1 * x2 * x2 * y2 * y2 * y2 * x3 * d - y1 * x2 * x2 * y2 * y2 * y2 * x3 * x3 * x3 * a * d + y1 * x2 * x2 * x2 * y2 * y2 * y3 * d - y1 * x2 * x2 * x2 * y2 * y2 * y3 * y3 * y3 * d - y1 * x2 * x2 * x2 * y2 * y2 * y2 * y2 * x3 * x3 * y3 * d * d + y1 * x2 * x2 * x2 * x2 * y2 * x3 * y3 * y3 * a * d - y1 * x2 * x2 * x2 * x2 * y2 * y2 * y2 * x3 * y3 * y3 * d * d
def ed_qx1_1 {F : Type} [Lean.Grind.CommRing F] (a d x1 y1 x2 y2 x3 y3 : F) : F := -x1 * x2 * y2 * y2 * y2 * y2 * x3 * y3 * y3 * d + x1 * x2 * x2 * y2 * y2 * y2 * y3 * d - x1 * x2 * x2 * y2 * y2 * y2 * y3 * y3 * y3 * d - x1 * x2 * x2 * x2 * y2 * y2 * x3 * a * d + x1 * x2 * x2 * x2 * y2 * y2 * x3 * x3 * x3 * a * a * d + x1 * x2 * x2 * x2 * y2 * y2 * y2 * y2 * x3 * y3 * y3 * d * d + x1 * x2 * x2 * x2 * x2 * y2 * x3 * x3 * y3 * a * a * d - x1 * x2 * x2 * x2 * x2 * y2 * y2 * y2 * x3 * x3 * y3 * a * d * d
def ed_qx2_0 {F : Type} [Lean.Grind.CommRing F] (a d x1 y1 x2 y2 x3 y3 : F) : F := -y1 * y2 * x3 + y1 * y2 * x3 * y3 * y3 + y1 * y2 * x3 * x3 * x3 * a - y1 * y2 * x3 * x3 * x3 * y3 * y3 * d - y1 * x2 * y3 + y1 * x2 * y3 * y3 * y3 + y1 * x2 * x3 * x3 * y3 * a - y1 * x2 * x3 * x3 * y3 * y3 * y3 * d
def ed_qx2_1 {F : Type} [Lean.Grind.CommRing F] (a d x1 y1 x2 y2 x3 y3 : F) : F := y1 * x2 * y2 * y2 * x3 * x3 * y3 * d + y1 * x2 * x2 * y2 * x3 * y3 * y3 * d + y1 * y1 * y1 * y2 * x3 - y1 * y1 * y1 * y2 * x3 * y3 * y3 - y1 * y1 * y1 * y2 * x3 * x3 * x3 * a + y1 * y1 * y1 * y2 * x3 * x3 * x3 * y3 * y3 * d + y1 * y1 * y1 * x2 * y3 - y1 * y1 * y1 * x2 * y3 * y3 * y3
def ed_qx2_2 {F : Type} [Lean.Grind.CommRing F] (a d x1 y1 x2 y2 x3 y3 : F) : F := -y1 * y1 * y1 * x2 * x3 * x3 * y3 * a + y1 * y1 * y1 * x2 * x3 * x3 * y3 * y3 * y3 * d - y1 * y1 * y1 * x2 * y2 * y2 * x3 * x3 * y3 * d - y1 * y1 * y1 * x2 * x2 * y2 * x3 * y3 * y3 * d - x1 * y2 * y3 + x1 * y2 * y3 * y3 * y3 + x1 * y2 * x3 * x3 * y3 * a - x1 * y2 * x3 * x3 * y3 * y3 * y3 * d
def ed_qx2_3 {F : Type} [Lean.Grind.CommRing F] (a d x1 y1 x2 y2 x3 y3 : F) : F := x1 * x2 * x3 * a - x1 * x2 * x3 * y3 * y3 * a - x1 * x2 * x3 * x3 * x3 * a * a + x1 * x2 * x3 * x3 * x3 * y3 * y3 * a * d - x1 * x2 * y2 * y2 * x3 * y3 * y3 * d + x1 * x2 * x2 * y2 * x3 * x3 * y3 * a * d + x1 * y1 * y1 * y2 * y3 - x1 * y1 * y1 * y2 * y3 * y3 * y3
def ed_qx2_4 {F : Type} [Lean.Grind.CommRing F] (a d x1 y1 x2 y2 x3 y3 : F) : F := -x1 * y1 * y1 * y2 * x3 * x3 * y3 * a + x1 * y1 * y1 * y2 * x3 * x3 * y3 * y3 * y3 * d - x1 * y1 * y1 * x2 * x3 * a + x1 * y1 * y1 * x2 * x3 * y3 * y3 * a + x1 * y1 * y1 * x2 * x3 * x3 * x3 * a * a - x1 * y1 * y1 * x2 * x3 * x3 * x3 * y3 * y3 * a * d + x1 * y1 * y1 * x2 * y2 * y2 * x3 * y3 * y3 * d - x1 * y1 * y1 * x2 * y2 * y2 * x3 * x3 * x3 * y3 * y3 * d * d
def ed_qx2_5 {F : Type} [Lean.Grind.CommRing F] (a d x1 y1 x2 y2 x3 y3 : F) : F := -x1 * y1 * y1 * x2 * x2 * y2 * x3 * x3 * y3 * a * d + x1 * y1 * y1 * x2 * x2 * y2 * x3 * x3 * y3 * y3 * y3 * d * d + x1 * x1 * y1 * y2 * x3 * a - x1 * x1 * y1 * y2 * x3 * y3 * y3 * a - x1 * x1 * y1 * y2 * x3 * x3 * x3 * a * a + x1 * x1 * y1 * y2 * x3 * x3 * x3 * y3 * y3 * a * d + x1 * x1 * y1 * x2 * y3 * a - x1 * x1 * y1 * x2 * y3 * y3 * y3 * a
def ed_qx2_6 {F : Type} [Lean.Grind.CommRing F] (a d x1 y1 x2 y2 x3 y3 : F) : F := -x1 * x1 * y1 * x2 * x3 * x3 * y3 * a * a + x1 * x1 * y1 * x2 * x3 * x3 * y3 * y3 * y3 * a * d - x1 * x1 * y1 * x2 * y2 * y2 * x3 * x3 * y3 * a * d + x1 * x1 * y1 * x2 * y2 * y2 * x3 * x3 * y3 * y3 * y3 * d * d - x1 * x1 * y1 * x2 * x2 * y2 * x3 * y3 * y3 * a * d + x1 * x1 * y1 * x2 * x2 * y2 * x3 * x3 * x3 * y3 * y3 * a * d * d + x1 * x1 * x1 * y2 * y3 * a - x1 * x1 * x1 * y2 * y3 * y3 * y3 * a
def ed_qx2_7 {F : Type} [Lean.Grind.CommRing F] (a d x1 y1 x2 y2 x3 y3 : F) : F := -x1 * x1 * x1 * y2 * x3 * x3 * y3 * a * a + x1 * x1 * x1 * y2 * x3 * x3 * y3 * y3 * y3 * a * d - x1 * x1 * x1 * x2 * x3 * a * a + x1 * x1 * x1 * x2 * x3 * y3 * y3 * a * a + x1 * x1 * x1 * x2 * x3 * x3 * x3 * a * a * a - x1 * x1 * x1 * x2 * x3 * x3 * x3 * y3 * y3 * a * a * d + x1 * x1 * x1 * x2 * y2 * y2 * x3 * y3 * y3 * a * d - x1 * x1 * x1 * x2 * x2 * y2 * x3 * x3 * y3 * a * a * d
def ed_qx3_0 {F : Type} [Lean.Grind.CommRing F] (a d x1 y1 x2 y2 x3 y3 : F) : F := y1 * y2 * x3 - y1 * y2 * y2 * y2 * x3 + y1 * x2 * y3 - y1 * x2 * y2 * y2 * y3 - y1 * x2 * x2 * y2 * x3 * a - y1 * x2 * x2 * x2 * y3 * a - y1 * y1 * y1 * y2 * x3 + y1 * y1 * y1 * y2 * y2 * y2 * x3
def ed_qx3_1 {F : Type} [Lean.Grind.CommRing F] (a d x1 y1 x2 y2 x3 y3 : F) : F := -y1 * y1 * y1 * x2 * y3 + y1 * y1 * y1 * x2 * y2 * y2 * y3 + y1 * y1 * y1 * x2 * x2 * y2 * x3 * a + y1 * y1 * y1 * x2 * x2 * x2 * y3 * a + x1 * y2 * y3 - x1 * y2 * y2 * y2 * y3 - x1 * x2 * x3 * a + x1 * x2 * y2 * y2 * x3 * a
def ed_qx3_2 {F : Type} [Lean.Grind.CommRing F] (a d x1 y1 x2 y2 x3 y3 : F) : F := -x1 * x2 * x2 * y2 * y3 * a + x1 * x2 * x2 * x2 * x3 * a * a - x1 * y1 * y1 * y2 * y3 + x1 * y1 * y1 * y2 * y2 * y2 * y3 + x1 * y1 * y1 * x2 * x3 * a + x1 * y1 * y1 * x2 * y2 * y2 * x3 * d - x1 * y1 * y1 * x2 * y2 * y2 * x3 * a - x1 * y1 * y1 * x2 * x2 * y2 * y3 * d
def ed_qx3_3 {F : Type} [Lean.Grind.CommRing F] (a d x1 y1 x2 y2 x3 y3 : F) : F := x1 * y1 * y1 * x2 * x2 * y2 * y3 * a - x1 * y1 * y1 * x2 * x2 * x2 * x3 * a * a - x1 * x1 * y1 * y2 * x3 * a + x1 * x1 * y1 * y2 * y2 * y2 * x3 * a - x1 * x1 * y1 * x2 * y3 * a - x1 * x1 * y1 * x2 * y2 * y2 * y3 * d + x1 * x1 * y1 * x2 * y2 * y2 * y3 * a - x1 * x1 * y1 * x2 * x2 * y2 * x3 * a * d
def ed_qx3_4 {F : Type} [Lean.Grind.CommRing F] (a d x1 y1 x2 y2 x3 y3 : F) : F := x1 * x1 * y1 * x2 * x2 * y2 * x3 * a * a + x1 * x1 * y1 * x2 * x2 * x2 * y3 * a * a - x1 * x1 * x1 * y2 * y3 * a + x1 * x1 * x1 * y2 * y2 * y2 * y3 * a + x1 * x1 * x1 * x2 * x3 * a * a - x1 * x1 * x1 * x2 * y2 * y2 * x3 * a * a + x1 * x1 * x1 * x2 * x2 * y2 * y3 * a * a - x1 * x1 * x1 * x2 * x2 * x2 * x3 * a * a * a
def ed_qy1_0 {F : Type} [Lean.Grind.CommRing F] (a d x1 y1 x2 y2 x3 y3 : F) : F := -y1 * x2 * y2 * y2 * y2 * y2 * x3 * y3 * y3 * d + y1 * x2 * x2 * y2 * y2 * y2 * y3 * d - y1 * x2 * x2 * y2 * y2 * y2 * y3 * y3 * y3 * d - y1 * x2 * x2 * x2 * y2 * y2 * x3 * a * d + y1 * x2 * x2 * x2 * y2 * y2 * x3 * x3 * x3 * a * a * d + y1 * x2 * x2 * x2 * y2 * y2 * y2 * y2 * x3 * y3 * y3 * d * d + y1 * x2 * x2 * x2 * x2 * y2 * x3 * x3 * y3 * a * a * d - y1 * x2 * x2 * x2 * x2 * y2 * y2 * y2 * x3 * x3 * y3 * a * d * d
def ed_qy1_1 {F : Type} [Lean.Grind.CommRing F] (a d x1 y1 x2 y2 x3 y3 : F) : F := -x1 * x2 * y2 * y2 * y2 * y2 * x3 * x3 * y3 * a * d - x1 * x2 * x2 * y2 * y2 * y2 * x3 * a * d + x1 * x2 * x2 * y2 * y2 * y2 * x3 * x3 * x3 * a * a * d - x1 * x2 * x2 * x2 * y2 * y2 * y3 * a * d + x1 * x2 * x2 * x2 * y2 * y2 * y3 * y3 * y3 * a * d + x1 * x2 * x2 * x2 * y2 * y2 * y2 * y2 * x3 * x3 * y3 * a * d * d - x1 * x2 * x2 * x2 * x2 * y2 * x3 * y3 * y3 * a * a * d + x1 * x2 * x2 * x2 * x2 * y2 * y2 * y2 * x3 * y3 * y3 * a * d * d
def ed_qy2_0 {F : Type} [Lean.Grind.CommRing F] (a d x1 y1 x2 y2 x3 y3 : F) : F := -y1 * y2 * y3 + y1 * y2 * y3 * y3 * y3 + y1 * y2 * x3 * x3 * y3 * a - y1 * y2 * x3 * x3 * y3 * y3 * y3 * d + y1 * x2 * x3 * a - y1 * x2 * x3 * y3 * y3 * a - y1 * x2 * x3 * x3 * x3 * a * a + y1 * x2 * x3 * x3 * x3 * y3 * y3 * a * d
def ed_qy2_1 {F : Type} [Lean.Grind.CommRing F] (a d x1 y1 x2 y2 x3 y3 : F) : F := -y1 * x2 * y2 * y2 * x3 * y3 * y3 * d + y1 * x2 * x2 * y2 * x3 * x3 * y3 * a * d + y1 * y1 * y1 * y2 * y3 - y1 * y1 * y1 * y2 * y3 * y3 * y3 - y1 * y1 * y1 * y2 * x3 * x3 * y3 * a + y1 * y1 * y1 * y2 * x3 * x3 * y3 * y3 * y3 * d - y1 * y1 * y1 * x2 * x3 * a + y1 * y1 * y1 * x2 * x3 * y3 * y3 * a
def ed_qy2_2 {F : Type} [Lean.Grind.CommRing F] (a d x1 y1 x2 y2 x3 y3 : F) : F := y1 * y1 * y1 * x2 * x3 * x3 * x3 * a * a - y1 * y1 * y1 * x2 * x3 * x3 * x3 * y3 * y3 * a * d + y1 * y1 * y1 * x2 * y2 * y2 * x3 * y3 * y3 * d - y1 * y1 * y1 * x2 * x2 * y2 * x3 * x3 * y3 * a * d + x1 * y2 * x3 * a - x1 * y2 * x3 * y3 * y3 * a - x1 * y2 * x3 * x3 * x3 * a * a + x1 * y2 * x3 * x3 * x3 * y3 * y3 * a * d
def ed_qy2_3 {F : Type} [Lean.Grind.CommRing F] (a d x1 y1 x2 y2 x3 y3 : F) : F := x1 * x2 * y3 * a - x1 * x2 * y3 * y3 * y3 * a - x1 * x2 * x3 * x3 * y3 * a * a + x1 * x2 * x3 * x3 * y3 * y3 * y3 * a * d - x1 * x2 * y2 * y2 * x3 * x3 * y3 * a * d - x1 * x2 * x2 * y2 * x3 * y3 * y3 * a * d - x1 * y1 * y1 * y2 * x3 * a + x1 * y1 * y1 * y2 * x3 * y3 * y3 * a
def ed_qy2_4 {F : Type} [Lean.Grind.CommRing F] (a d x1 y1 x2 y2 x3 y3 : F) : F := x1 * y1 * y1 * y2 * x3 * x3 * x3 * a * a - x1 * y1 * y1 * y2 * x3 * x3 * x3 * y3 * y3 * a * d - x1 * y1 * y1 * x2 * y3 * a + x1 * y1 * y1 * x2 * y3 * y3 * y3 * a + x1 * y1 * y1 * x2 * x3 * x3 * y3 * a * a - x1 * y1 * y1 * x2 * x3 * x3 * y3 * y3 * y3 * a * d + x1 * y1 * y1 * x2 * y2 * y2 * x3 * x3 * y3 * a * d - x1 * y1 * y1 * x2 * y2 * y2 * x3 * x3 * y3 * y3 * y3 * d * d
def ed_qy2_5 {F : Type} [Lean.Grind.CommRing F] (a d x1 y1 x2 y2 x3 y3 : F) : F := x1 * y1 * y1 * x2 * x2 * y2 * x3 * y3 * y3 * a * d - x1 * y1 * y1 * x2 * x2 * y2 * x3 * x3 * x3 * y3 * y3 * a * d * d + x1 * x1 * y1 * y2 * y3 * a - x1 * x1 * y1 * y2 * y3 * y3 * y3 * a - x1 * x1 * y1 * y2 * x3 * x3 * y3 * a * a + x1 * x1 * y1 * y2 * x3 * x3 * y3 * y3 * y3 * a * d - x1 * x1 * y1 * x2 * x3 * a * a + x1 * x1 * y1 * x2 * x3 * y3 * y3 * a * a
def ed_qy2_6 {F : Type} [Lean.Grind.CommRing F] (a d x1 y1 x2 y2 x3 y3 : F) : F := x1 * x1 * y1 * x2 * x3 * x3 * x3 * a * a * a - x1 * x1 * y1 * x2 * x3 * x3 * x3 * y3 * y3 * a * a * d + x1 * x1 * y1 * x2 * y2 * y2 * x3 * y3 * y3 * a * d - x1 * x1 * y1 * x2 * y2 * y2 * x3 * x3 * x3 * y3 * y3 * a * d * d - x1 * x1 * y1 * x2 * x2 * y2 * x3 * x3 * y3 * a * a * d + x1 * x1 * y1 * x2 * x2 * y2 * x3 * x3 * y3 * y3 * y3 * a * d * d - x1 * x1 * x1 * y2 * x3 * a * a + x1 * x1 * x1 * y2 * x3 * y3 * y3 * a * a
def ed_qy2_7 {F : Type} [Lean.Grind.CommRing F] (a d x1 y1 x2 y2 x3 y3 : F) : F := x1 * x1 * x1 * y2 * x3 * x3 * x3 * a * a * a - x1 * x1 * x1 * y2 * x3 * x3 * x3 * y3 * y3 * a * a * d - x1 * x1 * x1 * x2 * y3 * a * a + x1 * x1 * x1 * x2 * y3 * y3 * y3 * a * a + x1 * x1 * x1 * x2 * x3 * x3 * y3 * a * a * a - x1 * x1 * x1 * x2 * x3 * x3 * y3 * y3 * y3 * a * a * d + x1 * x1 * x1 * x2 * y2 * y2 * x3 * x3 * y3 * a * a * d + x1 * x1 * x1 * x2 * x2 * y2 * x3 * y3 * y3 * a * a * d
def ed_qy3_0 {F : Type} [Lean.Grind.CommRing F] (a d x1 y1 x2 y2 x3 y3 : F) : F := y1 * y2 * y3 - y1 * y2 * y2 * y2 * y3 - y1 * x2 * x3 * a + y1 * x2 * y2 * y2 * x3 * a - y1 * x2 * x2 * y2 * y3 * a + y1 * x2 * x2 * x2 * x3 * a * a - y1 * y1 * y1 * y2 * y3 + y1 * y1 * y1 * y2 * y2 * y2 * y3
def ed_qy3_1 {F : Type} [Lean.Grind.CommRing F] (a d x1 y1 x2 y2 x3 y3 : F) : F := y1 * y1 * y1 * x2 * x3 * a - y1 * y1 * y1 * x2 * y2 * y2 * x3 * a + y1 * y1 * y1 * x2 * x2 * y2 * y3 * a - y1 * y1 * y1 * x2 * x2 * x2 * x3 * a * a - x1 * y2 * x3 * a + x1 * y2 * y2 * y2 * x3 * a - x1 * x2 * y3 * a + x1 * x2 * y2 * y2 * y3 * a
def ed_qy3_2 {F : Type} [Lean.Grind.CommRing F] (a d x1 y1 x2 y2 x3 y3 : F) : F := x1 * x2 * x2 * y2 * x3 * a * a + x1 * x2 * x2 * x2 * y3 * a * a + x1 * y1 * y1 * y2 * x3 * a - x1 * y1 * y1 * y2 * y2 * y2 * x3 * a + x1 * y1 * y1 * x2 * y3 * a + x1 * y1 * y1 * x2 * y2 * y2 * y3 * d - x1 * y1 * y1 * x2 * y2 * y2 * y3 * a + x1 * y1 * y1 * x2 * x2 * y2 * x3 * a * d
def ed_qy3_3 {F : Type} [Lean.Grind.CommRing F] (a d x1 y1 x2 y2 x3 y3 : F) : F := -x1 * y1 * y1 * x2 * x2 * y2 * x3 * a * a - x1 * y1 * y1 * x2 * x2 * x2 * y3 * a * a - x1 * x1 * y1 * y2 * y3 * a + x1 * x1 * y1 * y2 * y2 * y2 * y3 * a + x1 * x1 * y1 * x2 * x3 * a * a + x1 * x1 * y1 * x2 * y2 * y2 * x3 * a * d - x1 * x1 * y1 * x2 * y2 * y2 * x3 * a * a - x1 * x1 * y1 * x2 * x2 * y2 * y3 * a * d
def ed_qy3_4 {F : Type} [Lean.Grind.CommRing F] (a d x1 y1 x2 y2 x3 y3 : F) : F := x1 * x1 * y1 * x2 * x2 * y2 * y3 * a * a - x1 * x1 * y1 * x2 * x2 * x2 * x3 * a * a * a + x1 * x1 * x1 * y2 * x3 * a * a - x1 * x1 * x1 * y2 * y2 * y2 * x3 * a * a + x1 * x1 * x1 * x2 * y3 * a * a - x1 * x1 * x1 * x2 * y2 * y2 * y3 * a * a - x1 * x1 * x1 * x2 * x2 * y2 * x3 * a * a * a - x1 * x1 * x1 * x2 * x2 * x2 * y3 * a * a * a
def ed_qc1_0 {F : Type} [Lean.Grind.CommRing F] (a d x1 y1 x2 y2 x3 y3 : F) : F := -y2 * y2 * y2 * y2 + 2 * x2 * x2 * y2 * y2 * d - 4 * x2 * x2 * y2 * y2 * a + 2 * x2 * x2 * y2 * y2 * y2 * y2 * a - x2 * x2 * x2 * x2 * a * a + 2 * x2 * x2 * x2 * x2 * y2 * y2 * a * a + x2 * x2 * x2 * x2 * y2 * y2 * y2 * y2 * d * d - 2 * x2 * x2 * x2 * x2 * y2 * y2 * y2 * y2 * a * d
def ed_qc1_1 {F : Type} [Lean.Grind.CommRing F] (a d x1 y1 x2 y2 x3 y3 : F) : F := y1 * y1 * x2 * x2 * y2 * y2 * y2 * y2 * d + y1 * y1 * x2 * x2 * x2 * x2 * y2 * y2 * a * d - y1 * y1 * x2 * x2 * x2 * x2 * y2 * y2 * y2 * y2 * d * d + x1 * x1 * x2 * x2 * y2 * y2 * y2 * y2 * a * d + x1 * x1 * x2 * x2 * x2 * x2 * y2 * y2 * a * a * d - x1 * x1 * x2 * x2 * x2 * x2 * y2 * y2 * y2 * y2 * a * d * d - x1 * x1 * y1 * y1 * x2 * x2 * x2 * x2 * y2 * y2 * y2 * y2 * d * d * d
def ed_qc2_0 {F : Type} [Lean.Grind.CommRing F] (a d x1 y1 x2 y2 x3 y3 : F) : F := -1 - y2 * y2 - x2 * x2 * a - x2 * x2 * y2 * y2 * d + 2 * x2 * x2 * y2 * y2 * a + y1 * y1 * y2 * y2 + y1 * y1 * x2 * x2 * a + 2 * y1 * y1 * x2 * x2 * y2 * y2 * d
def ed_qc2_1 {F : Type} [Lean.Grind.CommRing F] (a d x1 y1 x2 y2 x3 y3 : F) : F := -2 * y1 * y1 * x2 * x2 * y2 * y2 * a - y1 * y1 * y1 * y1 * x2 * x2 * y2 * y2 * d + x1 * x1 * y2 * y2 * a + x1 * x1 * x2 * x2 * a * a + 2 * x1 * x1 * x2 * x2 * y2 * y2 * a * d - 2 * x1 * x1 * x2 * x2 * y2 * y2 * a * a - x1 * x1 * x1 * x1 * x2 * x2 * y2 * y2 * a * a * d
def ed_on {F : Type} [Lean.Grind.CommRing F] (a d : F) (P : F × F) : Prop := a * (P.1 * P.1) + P.2 * P.2 = 1 + d * (P.1 * P.1) * (P.2 * P.2)
def ed_D {F : Type} [Lean.Grind.CommRing F] (d : F) (P Q : F × F) : F := d * (P.1 * Q.1) * (P.2 * Q.2)
def ed_add {F : Type} [Lean.Grind.CommRing F] (a d : F) (iv : F → F) (P Q : F × F) : F × F := ((P.1 * Q.2 + P.2 * Q.1) * iv (1 + ed_D d P Q), (P.2 * Q.2 - a * (P.1 * Q.1)) * iv (1 - ed_D d P Q))
def ed_neg {F : Type} [Lean.Grind.CommRing F] (P : F × F) : F × F := (-P.1, P.2)
theorem ed_sq0 {F : Type} [Lean.Grind.CommRing F] {a d i : F} {iv : F → F} (K : ed_K a d i iv) {x : F} (h : x * x = 0) : x = 0 := by
  rcases K.1 x x h with e | e
  · exact e
  · exact e
theorem ed_mul0 {F : Type} [Lean.Grind.CommRing F] {a d i : F} {iv : F → F} (K : ed_K a d i iv) {x y : F} (hx : x ≠ 0) (hy : y ≠ 0) : x * y ≠ 0 := fun h => by
  rcases K.1 x y h with e | e
  · exact hx e
  · exact hy e
theorem ed_can {F : Type} [Lean.Grind.CommRing F] {a d i : F} {iv : F → F} (K : ed_K a d i iv) {c x y : F} (hc : c ≠ 0) (h : x * c = y * c) : x = y := by
  have h1 : c * (x - y) = 0 := by grind
  rcases K.1 c (x - y) h1 with e | e
  · exact absurd e hc
  · grind
theorem ed_nsq {F : Type} [Lean.Grind.CommRing F] {a d i : F} {iv : F → F} (K : ed_K a d i iv) {v w : F} (hw : w ≠ 0) (h : v * v = d * (w * w)) : False := by
  have h1 := K.2.1 w hw
  refine K.2.2.2.2 (v * iv w) ?_
  have e1 : v * iv w * (v * iv w) = v * v * (iv w * iv w) := by grind
  have e2 : d * (w * w) * (iv w * iv w) = d * ((w * iv w) * (w * iv w)) := by grind
  rw [e1, h, e2, h1]
  grind
theorem ed_id1 {F : Type} [Lean.Grind.CommRing F] (i d x1 y1 x2 y2 : F) : (i * x1 + (d * (x1 * x2) * (y1 * y2)) * y1) * (i * x1 + (d * (x1 * x2) * (y1 * y2)) * y1) - d * ((x1 * y1 * (i * x2 + y2)) * (x1 * y1 * (i * x2 + y2))) = ((i * i) * (x1 * x1) + y1 * y1 - 1 - d * (x1 * x1) * (y1 * y1)) - d * (x1 * x1) * (y1 * y1) * ((i * i) * (x2 * x2) + y2 * y2 - 1 - d * (x2 * x2) * (y2 * y2)) + (1 + y1 * y1 * 0) * (1 - (d * (x1 * x2) * (y1 * y2)) * (d * (x1 * x2) * (y1 * y2))) - y1 * y1 * (1 - (d * (x1 * x2) * (y1 * y2)) * (d * (x1 * x2) * (y1 * y2))) := by
  grind
theorem ed_id2 {F : Type} [Lean.Grind.CommRing F] (i d x1 y1 x2 y2 : F) : (i * x1 - (d * (x1 * x2) * (y1 * y2)) * y1) * (i * x1 - (d * (x1 * x2) * (y1 * y2)) * y1) - d * ((x1 * y1 * (i * x2 - y2)) * (x1 * y1 * (i * x2 - y2))) = ((i * i) * (x1 * x1) + y1 * y1 - 1 - d * (x1 * x1) * (y1 * y1)) - d * (x1 * x1) * (y1 * y1) * ((i * i) * (x2 * x2) + y2 * y2 - 1 - d * (x2 * x2) * (y2 * y2)) + (1 + y1 * y1 * 0) * (1 - (d * (x1 * x2) * (y1 * y2)) * (d * (x1 * x2) * (y1 * y2))) - y1 * y1 * (1 - (d * (x1 * x2) * (y1 * y2)) * (d * (x1 * x2) * (y1 * y2))) := by
  grind
theorem ed_D2 {F : Type} [Lean.Grind.CommRing F] {a d i : F} {iv : F → F} (K : ed_K a d i iv) {P Q : F × F} (hP : ed_on a d P) (hQ : ed_on a d Q) : ed_D d P Q * ed_D d P Q ≠ 1 := by
  obtain ⟨x1, y1⟩ := P
  obtain ⟨x2, y2⟩ := Q
  intro h
  have h' : d * (x1 * x2) * (y1 * y2) * (d * (x1 * x2) * (y1 * y2)) = 1 := h
  have hP' : a * (x1 * x1) + y1 * y1 = 1 + d * (x1 * x1) * (y1 * y1) := hP
  have hQ' : a * (x2 * x2) + y2 * y2 = 1 + d * (x2 * x2) * (y2 * y2) := hQ
  have hi := K.2.2.2.1.1
  have p1 : (i * i) * (x1 * x1) + y1 * y1 - 1 - d * (x1 * x1) * (y1 * y1) = 0 := by rw [hi]; grind
  have p2 : (i * i) * (x2 * x2) + y2 * y2 - 1 - d * (x2 * x2) * (y2 * y2) = 0 := by rw [hi]; grind
  have p3 : 1 - (d * (x1 * x2) * (y1 * y2)) * (d * (x1 * x2) * (y1 * y2)) = 0 := by rw [h']; grind
  have j1 := ed_id1 i d x1 y1 x2 y2
  have j2 := ed_id2 i d x1 y1 x2 y2
  rw [p1, p2, p3] at j1 j2
  have k1 : (i * x1 + (d * (x1 * x2) * (y1 * y2)) * y1) * (i * x1 + (d * (x1 * x2) * (y1 * y2)) * y1) = d * ((x1 * y1 * (i * x2 + y2)) * (x1 * y1 * (i * x2 + y2))) := by
    generalize (i * x1 + (d * (x1 * x2) * (y1 * y2)) * y1) * (i * x1 + (d * (x1 * x2) * (y1 * y2)) * y1) = u at j1 ⊢
    generalize d * ((x1 * y1 * (i * x2 + y2)) * (x1 * y1 * (i * x2 + y2))) = v at j1 ⊢
    clear h' hP' hQ' p1 p2 p3 j2 h hP hQ hi
    grind
  have k2 : (i * x1 - (d * (x1 * x2) * (y1 * y2)) * y1) * (i * x1 - (d * (x1 * x2) * (y1 * y2)) * y1) = d * ((x1 * y1 * (i * x2 - y2)) * (x1 * y1 * (i * x2 - y2))) := by
    generalize (i * x1 - (d * (x1 * x2) * (y1 * y2)) * y1) * (i * x1 - (d * (x1 * x2) * (y1 * y2)) * y1) = u at j2 ⊢
    generalize d * ((x1 * y1 * (i * x2 - y2)) * (x1 * y1 * (i * x2 - y2))) = v at j2 ⊢
    clear h' hP' hQ' p1 p2 p3 j1 k1 h hP hQ hi
    grind
  have n1 : x1 ≠ 0 := fun z => K.2.2.1.1 (by rw [z] at h'; clear hP' hQ' p1 p2 p3 j1 j2 k1 k2 h hP hQ hi; grind)
  have n2 : y1 ≠ 0 := fun z => K.2.2.1.1 (by rw [z] at h'; clear hP' hQ' p1 p2 p3 j1 j2 k1 k2 h hP hQ hi; grind)
  have n3 : y2 ≠ 0 := fun z => K.2.2.1.1 (by rw [z] at h'; clear hP' hQ' p1 p2 p3 j1 j2 k1 k2 h hP hQ hi; grind)
  by_cases c1 : i * x2 + y2 = 0
  · by_cases c2 : i * x2 - y2 = 0
    · have e : (1 + 1) * y2 = 0 := by clear h' hP' hQ' p1 p2 p3 j1 j2 k1 k2 h hP hQ hi; grind
      rcases K.1 _ _ e with q | q
      · exact K.2.2.1.2 q
      · exact n3 q
    · exact ed_nsq K (ed_mul0 K (ed_mul0 K n1 n2) c2) k2
  · exact ed_nsq K (ed_mul0 K (ed_mul0 K n1 n2) c1) k1
theorem ed_pl {F : Type} [Lean.Grind.CommRing F] {a d i : F} {iv : F → F} (K : ed_K a d i iv) {P Q : F × F} (hP : ed_on a d P) (hQ : ed_on a d Q) : 1 + ed_D d P Q ≠ 0 := by
  intro h
  refine ed_D2 K hP hQ ?_
  generalize ed_D d P Q = u at h
  have : u = -1 := by clear hP hQ K; grind
  rw [this]
  clear hP hQ K
  grind
theorem ed_mi {F : Type} [Lean.Grind.CommRing F] {a d i : F} {iv : F → F} (K : ed_K a d i iv) {P Q : F × F} (hP : ed_on a d P) (hQ : ed_on a d Q) : 1 - ed_D d P Q ≠ 0 := by
  intro h
  refine ed_D2 K hP hQ ?_
  generalize ed_D d P Q = u at h
  have : u = 1 := by clear hP hQ K; grind
  rw [this]
  clear hP hQ K
  grind
theorem ed_ivm {F : Type} [Lean.Grind.CommRing F] {a d i : F} {iv : F → F} (K : ed_K a d i iv) {c x : F} (hc : c ≠ 0) : x * iv c * c = x := by
  have h := K.2.1 c hc
  have e : x * iv c * c = x * (c * iv c) := by clear h hc K; grind
  rw [e, h]
  clear h hc K
  grind
theorem ed_ax {F : Type} [Lean.Grind.CommRing F] {a d i : F} {iv : F → F} (K : ed_K a d i iv) {P Q : F × F} (hP : ed_on a d P) (hQ : ed_on a d Q) : (ed_add a d iv P Q).1 * (1 + ed_D d P Q) = P.1 * Q.2 + P.2 * Q.1 := ed_ivm K (ed_pl K hP hQ)
theorem ed_ay {F : Type} [Lean.Grind.CommRing F] {a d i : F} {iv : F → F} (K : ed_K a d i iv) {P Q : F × F} (hP : ed_on a d P) (hQ : ed_on a d Q) : (ed_add a d iv P Q).2 * (1 - ed_D d P Q) = P.2 * Q.2 - a * (P.1 * Q.1) := ed_ivm K (ed_mi K hP hQ)
theorem ed_idc {F : Type} [Lean.Grind.CommRing F] (a d x1 y1 x2 y2 : F) : a * ((x1 * y2 + y1 * x2) * (x1 * y2 + y1 * x2)) * ((1 - d * (x1 * x2) * (y1 * y2)) * (1 - d * (x1 * x2) * (y1 * y2))) + (y1 * y2 - a * (x1 * x2)) * (y1 * y2 - a * (x1 * x2)) * ((1 + d * (x1 * x2) * (y1 * y2)) * (1 + d * (x1 * x2) * (y1 * y2))) - (1 - d * (x1 * x2) * (y1 * y2)) * (1 + d * (x1 * x2) * (y1 * y2)) * ((1 - d * (x1 * x2) * (y1 * y2)) * (1 + d * (x1 * x2) * (y1 * y2))) - d * ((x1 * y2 + y1 * x2) * (x1 * y2 + y1 * x2)) * ((y1 * y2 - a * (x1 * x2)) * (y1 * y2 - a * (x1 * x2))) = (ed_qc1_0 a d x1 y1 x2 y2 0 0 + ed_qc1_1 a d x1 y1 x2 y2 0 0) * (d * (x1 * x1) * (y1 * y1) - a * (x1 * x1) - y1 * y1 + 1) + (ed_qc2_0 a d x1 y1 x2 y2 0 0 + ed_qc2_1 a d x1 y1 x2 y2 0 0) * (d * (x2 * x2) * (y2 * y2) - a * (x2 * x2) - y2 * y2 + 1) := by
  unfold ed_qc1_0 ed_qc1_1 ed_qc2_0 ed_qc2_1
  grind
theorem ed_ze {F : Type} [Lean.Grind.CommRing F] {a d x y : F} (h : ed_on a d (x, y)) : d * (x * x) * (y * y) - a * (x * x) - y * y + 1 = 0 := by
  have h' : a * (x * x) + y * y = 1 + d * (x * x) * (y * y) := h
  clear h
  grind
theorem ed_idd {F : Type} [Lean.Grind.CommRing F] (a d x y u : F) : (1 - u) * (1 + u) * ((1 - u) * (1 + u)) * (a * (x * x) + y * y - 1 - d * (x * x) * (y * y)) = a * ((x * (1 + u)) * (x * (1 + u))) * ((1 - u) * (1 - u)) + (y * (1 - u)) * (y * (1 - u)) * ((1 + u) * (1 + u)) - (1 - u) * (1 + u) * ((1 - u) * (1 + u)) - d * ((x * (1 + u)) * (x * (1 + u))) * ((y * (1 - u)) * (y * (1 - u))) := by
  grind
theorem ed_add_on {F : Type} [Lean.Grind.CommRing F] {a d i : F} {iv : F → F} (K : ed_K a d i iv) {P Q : F × F} (hP : ed_on a d P) (hQ : ed_on a d Q) : ed_on a d (ed_add a d iv P Q) := by
  have hx := ed_ax K hP hQ
  have hy := ed_ay K hP hQ
  have hp := ed_pl K hP hQ
  have hm := ed_mi K hP hQ
  have hM := ed_mul0 K hm hp
  have hk := ed_idd a d (ed_add a d iv P Q).1 (ed_add a d iv P Q).2 (ed_D d P Q)
  rw [hx, hy] at hk
  have z1 := ed_ze (x := P.1) (y := P.2) hP
  have z2 := ed_ze (x := Q.1) (y := Q.2) hQ
  have hc := ed_idc a d P.1 P.2 Q.1 Q.2
  rw [z1, z2] at hc
  have hk2 := hk.trans hc
  have hk3 : (1 - ed_D d P Q) * (1 + ed_D d P Q) * ((1 - ed_D d P Q) * (1 + ed_D d P Q)) * (a * ((ed_add a d iv P Q).1 * (ed_add a d iv P Q).1) + (ed_add a d iv P Q).2 * (ed_add a d iv P Q).2 - 1 - d * ((ed_add a d iv P Q).1 * (ed_add a d iv P Q).1) * ((ed_add a d iv P Q).2 * (ed_add a d iv P Q).2)) = 0 := by
    rw [hk2]
    clear hk2 hc z1 z2 hk hM hm hp hx hy hP hQ K
    grind
  rcases K.1 _ _ hk3 with e | e
  · exact absurd e (ed_mul0 K hM hM)
  · show a * ((ed_add a d iv P Q).1 * (ed_add a d iv P Q).1) + (ed_add a d iv P Q).2 * (ed_add a d iv P Q).2 = 1 + d * ((ed_add a d iv P Q).1 * (ed_add a d iv P Q).1) * ((ed_add a d iv P Q).2 * (ed_add a d iv P Q).2)
    generalize (ed_add a d iv P Q).1 = x at e ⊢
    generalize (ed_add a d iv P Q).2 = y at e ⊢
    clear hk3 hk2 hc z1 z2 hk hM hm hp hx hy hP hQ K
    grind
theorem ed_comm {F : Type} [Lean.Grind.CommRing F] (a d : F) (iv : F → F) (P Q : F × F) : ed_add a d iv P Q = ed_add a d iv Q P := by
  unfold ed_add
  have h : ed_D d P Q = ed_D d Q P := by unfold ed_D; grind
  have h1 : P.1 * Q.2 + P.2 * Q.1 = Q.1 * P.2 + Q.2 * P.1 := by grind
  have h2 : P.2 * Q.2 - a * (P.1 * Q.1) = Q.2 * P.2 - a * (Q.1 * P.1) := by grind
  rw [h, h1, h2]
def ed_nx {F : Type} [Lean.Grind.CommRing F] (a d x1 y1 x2 y2 x3 y3 : F) : F := (x1 * y2 + y1 * x2) * (1 - d * (x1 * x2) * (y1 * y2)) * y3 + (y1 * y2 - a * (x1 * x2)) * (1 + d * (x1 * x2) * (y1 * y2)) * x3
def ed_ny {F : Type} [Lean.Grind.CommRing F] (a d x1 y1 x2 y2 x3 y3 : F) : F := (y1 * y2 - a * (x1 * x2)) * (1 + d * (x1 * x2) * (y1 * y2)) * y3 - a * ((x1 * y2 + y1 * x2) * (1 - d * (x1 * x2) * (y1 * y2)) * x3)
def ed_dx {F : Type} [Lean.Grind.CommRing F] (a d x1 y1 x2 y2 x3 y3 : F) : F := (1 - d * (x1 * x2) * (y1 * y2)) * (1 + d * (x1 * x2) * (y1 * y2)) + d * ((x1 * y2 + y1 * x2) * (y1 * y2 - a * (x1 * x2))) * (x3 * y3)
def ed_dy {F : Type} [Lean.Grind.CommRing F] (a d x1 y1 x2 y2 x3 y3 : F) : F := (1 - d * (x1 * x2) * (y1 * y2)) * (1 + d * (x1 * x2) * (y1 * y2)) - d * ((x1 * y2 + y1 * x2) * (y1 * y2 - a * (x1 * x2))) * (x3 * y3)
set_option maxHeartbeats 4000000 in
theorem ed_idx {F : Type} [Lean.Grind.CommRing F] (a d x1 y1 x2 y2 x3 y3 : F) : ed_nx a d x1 y1 x2 y2 x3 y3 * ed_dx a d x2 y2 x3 y3 x1 y1 - ed_nx a d x2 y2 x3 y3 x1 y1 * ed_dx a d x1 y1 x2 y2 x3 y3 = (ed_qx1_0 a d x1 y1 x2 y2 x3 y3 + ed_qx1_1 a d x1 y1 x2 y2 x3 y3) * (d * (x1 * x1) * (y1 * y1) - a * (x1 * x1) - y1 * y1 + 1) + (ed_qx2_0 a d x1 y1 x2 y2 x3 y3 + ed_qx2_1 a d x1 y1 x2 y2 x3 y3 + ed_qx2_2 a d x1 y1 x2 y2 x3 y3 + ed_qx2_3 a d x1 y1 x2 y2 x3 y3 + ed_qx2_4 a d x1 y1 x2 y2 x3 y3 + ed_qx2_5 a d x1 y1 x2 y2 x3 y3 + ed_qx2_6 a d x1 y1 x2 y2 x3 y3 + ed_qx2_7 a d x1 y1 x2 y2 x3 y3) * (d * (x2 * x2) * (y2 * y2) - a * (x2 * x2) - y2 * y2 + 1) + (ed_qx3_0 a d x1 y1 x2 y2 x3 y3 + ed_qx3_1 a d x1 y1 x2 y2 x3 y3 + ed_qx3_2 a d x1 y1 x2 y2 x3 y3 + ed_qx3_3 a d x1 y1 x2 y2 x3 y3 + ed_qx3_4 a d x1 y1 x2 y2 x3 y3) * (d * (x3 * x3) * (y3 * y3) - a * (x3 * x3) - y3 * y3 + 1) := by
  unfold ed_nx ed_dx ed_qx1_0 ed_qx1_1 ed_qx2_0 ed_qx2_1 ed_qx2_2 ed_qx2_3 ed_qx2_4 ed_qx2_5 ed_qx2_6 ed_qx2_7 ed_qx3_0 ed_qx3_1 ed_qx3_2 ed_qx3_3 ed_qx3_4
  grind
set_option maxHeartbeats 4000000 in
theorem ed_idy {F : Type} [Lean.Grind.CommRing F] (a d x1 y1 x2 y2 x3 y3 : F) : ed_ny a d x1 y1 x2 y2 x3 y3 * ed_dy a d x2 y2 x3 y3 x1 y1 - ed_ny a d x2 y2 x3 y3 x1 y1 * ed_dy a d x1 y1 x2 y2 x3 y3 = (ed_qy1_0 a d x1 y1 x2 y2 x3 y3 + ed_qy1_1 a d x1 y1 x2 y2 x3 y3) * (d * (x1 * x1) * (y1 * y1) - a * (x1 * x1) - y1 * y1 + 1) + (ed_qy2_0 a d x1 y1 x2 y2 x3 y3 + ed_qy2_1 a d x1 y1 x2 y2 x3 y3 + ed_qy2_2 a d x1 y1 x2 y2 x3 y3 + ed_qy2_3 a d x1 y1 x2 y2 x3 y3 + ed_qy2_4 a d x1 y1 x2 y2 x3 y3 + ed_qy2_5 a d x1 y1 x2 y2 x3 y3 + ed_qy2_6 a d x1 y1 x2 y2 x3 y3 + ed_qy2_7 a d x1 y1 x2 y2 x3 y3) * (d * (x2 * x2) * (y2 * y2) - a * (x2 * x2) - y2 * y2 + 1) + (ed_qy3_0 a d x1 y1 x2 y2 x3 y3 + ed_qy3_1 a d x1 y1 x2 y2 x3 y3 + ed_qy3_2 a d x1 y1 x2 y2 x3 y3 + ed_qy3_3 a d x1 y1 x2 y2 x3 y3 + ed_qy3_4 a d x1 y1 x2 y2 x3 y3) * (d * (x3 * x3) * (y3 * y3) - a * (x3 * x3) - y3 * y3 + 1) := by
  unfold ed_ny ed_dy ed_qy1_0 ed_qy1_1 ed_qy2_0 ed_qy2_1 ed_qy2_2 ed_qy2_3 ed_qy2_4 ed_qy2_5 ed_qy2_6 ed_qy2_7 ed_qy3_0 ed_qy3_1 ed_qy3_2 ed_qy3_3 ed_qy3_4
  grind
theorem ed_ie {F : Type} [Lean.Grind.CommRing F] (a d u x y x3 y3 : F) : (1 - u) * (1 + u) * (1 + d * (x * x3) * (y * y3)) = (1 - u) * (1 + u) + d * ((x * (1 + u)) * (y * (1 - u))) * (x3 * y3) := by grind
theorem ed_if {F : Type} [Lean.Grind.CommRing F] (a d u x y x3 y3 : F) : (1 - u) * (1 + u) * (1 - d * (x * x3) * (y * y3)) = (1 - u) * (1 + u) - d * ((x * (1 + u)) * (y * (1 - u))) * (x3 * y3) := by grind
theorem ed_ig {F : Type} [Lean.Grind.CommRing F] (a u x y x3 y3 : F) : (1 - u) * (1 + u) * (x * y3 + y * x3) = (x * (1 + u)) * (1 - u) * y3 + (y * (1 - u)) * (1 + u) * x3 := by grind
theorem ed_ih {F : Type} [Lean.Grind.CommRing F] (a u x y x3 y3 : F) : (1 - u) * (1 + u) * (y * y3 - a * (x * x3)) = (y * (1 - u)) * (1 + u) * y3 - a * ((x * (1 + u)) * (1 - u) * x3) := by grind
theorem ed_half {F : Type} [Lean.Grind.CommRing F] {a d i : F} {iv : F → F} (K : ed_K a d i iv) {P Q T : F × F} (hP : ed_on a d P) (hQ : ed_on a d Q) (hT : ed_on a d T) :
    ((ed_add a d iv (ed_add a d iv P Q) T).1 * ed_dx a d P.1 P.2 Q.1 Q.2 T.1 T.2 = ed_nx a d P.1 P.2 Q.1 Q.2 T.1 T.2 ∧ ed_dx a d P.1 P.2 Q.1 Q.2 T.1 T.2 ≠ 0) ∧ ((ed_add a d iv (ed_add a d iv P Q) T).2 * ed_dy a d P.1 P.2 Q.1 Q.2 T.1 T.2 = ed_ny a d P.1 P.2 Q.1 Q.2 T.1 T.2 ∧ ed_dy a d P.1 P.2 Q.1 Q.2 T.1 T.2 ≠ 0) := by
  have hx := ed_ax K hP hQ
  have hy := ed_ay K hP hQ
  have hR := ed_add_on K hP hQ
  have hM := ed_mul0 K (ed_mi K hP hQ) (ed_pl K hP hQ)
  have tx := ed_ax K hR hT
  have ty := ed_ay K hR hT
  have np := ed_mul0 K hM (ed_pl K hR hT)
  have nm := ed_mul0 K hM (ed_mi K hR hT)
  generalize hRe : ed_add a d iv P Q = R at hx hy hR tx ty np nm ⊢
  generalize hVe : ed_add a d iv R T = V at tx ty ⊢
  have e1 := ed_ie a d (ed_D d P Q) R.1 R.2 T.1 T.2
  have e2 := ed_if a d (ed_D d P Q) R.1 R.2 T.1 T.2
  have e3 := ed_ig a (ed_D d P Q) R.1 R.2 T.1 T.2
  have e4 := ed_ih a (ed_D d P Q) R.1 R.2 T.1 T.2
  rw [hx, hy] at e1 e2 e3 e4
  have e1' : (1 - ed_D d P Q) * (1 + ed_D d P Q) * (1 + ed_D d R T) = ed_dx a d P.1 P.2 Q.1 Q.2 T.1 T.2 := e1
  have e2' : (1 - ed_D d P Q) * (1 + ed_D d P Q) * (1 - ed_D d R T) = ed_dy a d P.1 P.2 Q.1 Q.2 T.1 T.2 := e2
  have e3' : (1 - ed_D d P Q) * (1 + ed_D d P Q) * (R.1 * T.2 + R.2 * T.1) = ed_nx a d P.1 P.2 Q.1 Q.2 T.1 T.2 := e3
  have e4' : (1 - ed_D d P Q) * (1 + ed_D d P Q) * (R.2 * T.2 - a * (R.1 * T.1)) = ed_ny a d P.1 P.2 Q.1 Q.2 T.1 T.2 := e4
  refine ⟨⟨?_, by rw [← e1']; exact np⟩, ?_, by rw [← e2']; exact nm⟩
  · rw [← e1', ← e3', ← tx]
    generalize (1 - ed_D d P Q) * (1 + ed_D d P Q) = M
    generalize 1 + ed_D d R T = N
    clear e1 e2 e3 e4 e1' e2' e3' e4' np nm tx ty hx hy hM hR hP hQ hT hRe hVe K
    grind
  · rw [← e2', ← e4', ← ty]
    generalize (1 - ed_D d P Q) * (1 + ed_D d P Q) = M
    generalize 1 - ed_D d R T = N
    clear e1 e2 e3 e4 e1' e2' e3' e4' np nm tx ty hx hy hM hR hP hQ hT hRe hVe K
    grind
theorem ed_cross {F : Type} [Lean.Grind.CommRing F] {a d i : F} {iv : F → F} (K : ed_K a d i iv) {u v n1 n2 d1 d2 : F} (h1 : u * d1 = n1) (h2 : v * d2 = n2) (z1 : d1 ≠ 0) (z2 : d2 ≠ 0) (h : n1 * d2 - n2 * d1 = 0) : u = v := by
  refine ed_can K (ed_mul0 K z1 z2) ?_
  rw [← h1, ← h2] at h
  clear h1 h2 z1 z2 K
  grind
theorem ed_turn {F : Type} [Lean.Grind.CommRing F] {a d i : F} {iv : F → F} (K : ed_K a d i iv) {P Q T : F × F} (hP : ed_on a d P) (hQ : ed_on a d Q) (hT : ed_on a d T) : ed_add a d iv (ed_add a d iv P Q) T = ed_add a d iv (ed_add a d iv Q T) P := by
  obtain ⟨⟨a1, a2⟩, a3, a4⟩ := ed_half K hP hQ hT
  obtain ⟨⟨b1, b2⟩, b3, b4⟩ := ed_half K hQ hT hP
  have z1 := ed_ze (x := P.1) (y := P.2) hP
  have z2 := ed_ze (x := Q.1) (y := Q.2) hQ
  have z3 := ed_ze (x := T.1) (y := T.2) hT
  have ix := ed_idx a d P.1 P.2 Q.1 Q.2 T.1 T.2
  have iy := ed_idy a d P.1 P.2 Q.1 Q.2 T.1 T.2
  rw [z1, z2, z3] at ix iy
  refine Prod.ext (ed_cross K a1 b1 a2 b2 (ix.trans ?_)) (ed_cross K a3 b3 a4 b4 (iy.trans ?_))
  · clear ix iy z1 z2 z3 a1 a2 a3 a4 b1 b2 b3 b4 hP hQ hT K
    grind
  · clear ix iy z1 z2 z3 a1 a2 a3 a4 b1 b2 b3 b4 hP hQ hT K
    grind
theorem ed_assoc {F : Type} [Lean.Grind.CommRing F] {a d i : F} {iv : F → F} (K : ed_K a d i iv) {P Q T : F × F} (hP : ed_on a d P) (hQ : ed_on a d Q) (hT : ed_on a d T) : ed_add a d iv (ed_add a d iv P Q) T = ed_add a d iv P (ed_add a d iv Q T) := by
  rw [ed_turn K hP hQ hT, ed_comm]
theorem ed_iv1 {F : Type} [Lean.Grind.CommRing F] {a d i : F} {iv : F → F} (K : ed_K a d i iv) : iv 1 = 1 := by
  have h := K.2.1 1 K.2.2.1.1
  clear K
  grind
theorem ed_on0 {F : Type} [Lean.Grind.CommRing F] (a d : F) : ed_on a d (0, 1) := by
  show a * (0 * 0) + 1 * 1 = 1 + d * (0 * 0) * (1 * 1)
  grind
theorem ed_zero {F : Type} [Lean.Grind.CommRing F] {a d i : F} {iv : F → F} (K : ed_K a d i iv) (P : F × F) : ed_add a d iv P (0, 1) = P := by
  obtain ⟨x, y⟩ := P
  show ((x * 1 + y * 0) * iv (1 + d * (x * 0) * (y * 1)), (y * 1 - a * (x * 0)) * iv (1 - d * (x * 0) * (y * 1))) = (x, y)
  have e1 : 1 + d * (x * 0) * (y * 1) = 1 := by clear K; grind
  have e2 : 1 - d * (x * 0) * (y * 1) = 1 := by clear K; grind
  rw [e1, e2, ed_iv1 K]
  refine Prod.ext ?_ ?_
  · show (x * 1 + y * 0) * 1 = x
    clear K e1 e2
    grind
  · show (y * 1 - a * (x * 0)) * 1 = y
    clear K e1 e2
    grind
theorem ed_neg_on {F : Type} [Lean.Grind.CommRing F] {a d : F} {P : F × F} (hP : ed_on a d P) : ed_on a d (ed_neg P) := by
  have h : a * (P.1 * P.1) + P.2 * P.2 = 1 + d * (P.1 * P.1) * (P.2 * P.2) := hP
  show a * (-P.1 * -P.1) + P.2 * P.2 = 1 + d * (-P.1 * -P.1) * (P.2 * P.2)
  have e : -P.1 * -P.1 = P.1 * P.1 := by clear h hP; grind
  rw [e]
  exact h
theorem ed_less {F : Type} [Lean.Grind.CommRing F] {a d i : F} {iv : F → F} (K : ed_K a d i iv) {P : F × F} (hP : ed_on a d P) : ed_add a d iv P (ed_neg P) = (0, 1) := by
  have hQ := ed_neg_on hP
  refine Prod.ext ?_ ?_
  · refine ed_can K (ed_pl K hP hQ) ?_
    rw [ed_ax K hP hQ]
    show P.1 * P.2 + P.2 * -P.1 = 0 * _
    clear hP hQ K
    grind
  · refine ed_can K (ed_mi K hP hQ) ?_
    rw [ed_ay K hP hQ]
    have h : a * (P.1 * P.1) + P.2 * P.2 = 1 + d * (P.1 * P.1) * (P.2 * P.2) := hP
    show P.2 * P.2 - a * (P.1 * -P.1) = 1 * (1 - d * (P.1 * -P.1) * (P.2 * P.2))
    clear hP hQ K
    grind
theorem ed_neg_add {F : Type} [Lean.Grind.CommRing F] (a d : F) (iv : F → F) (P Q : F × F) : ed_neg (ed_add a d iv P Q) = ed_add a d iv (ed_neg P) (ed_neg Q) := by
  have e : ed_D d (ed_neg P) (ed_neg Q) = ed_D d P Q := by
    show d * (-P.1 * -Q.1) * (P.2 * Q.2) = d * (P.1 * Q.1) * (P.2 * Q.2)
    grind
  unfold ed_add
  rw [e]
  refine Prod.ext ?_ ?_
  · show -((P.1 * Q.2 + P.2 * Q.1) * iv (1 + ed_D d P Q)) = (-P.1 * Q.2 + P.2 * -Q.1) * iv (1 + ed_D d P Q)
    generalize iv (1 + ed_D d P Q) = w
    clear e
    grind
  · show (P.2 * Q.2 - a * (P.1 * Q.1)) * iv (1 - ed_D d P Q) = (P.2 * Q.2 - a * (-P.1 * -Q.1)) * iv (1 - ed_D d P Q)
    generalize iv (1 - ed_D d P Q) = w
    clear e
    grind
/-- n times a point -/
def ed_nm {F : Type} [Lean.Grind.CommRing F] (a d : F) (iv : F → F) (P : F × F) : Nat → F × F
  | 0 => (0, 1)
  | n + 1 => ed_add a d iv (ed_nm a d iv P n) P
theorem ed_nm_on {F : Type} [Lean.Grind.CommRing F] {a d i : F} {iv : F → F} (K : ed_K a d i iv) {P : F × F} (hP : ed_on a d P) : ∀ n, ed_on a d (ed_nm a d iv P n) := by
  intro n
  induction n with
  | zero => exact ed_on0 a d
  | succ n ih => exact ed_add_on K ih hP
theorem ed_nm1 {F : Type} [Lean.Grind.CommRing F] {a d i : F} {iv : F → F} (K : ed_K a d i iv) {P : F × F} : ed_nm a d iv P 1 = P := by
  show ed_add a d iv (0, 1) P = P
  rw [ed_comm]
  exact ed_zero K P
theorem ed_nm_add {F : Type} [Lean.Grind.CommRing F] {a d i : F} {iv : F → F} (K : ed_K a d i iv) {P : F × F} (hP : ed_on a d P) (m : Nat) : ∀ n, ed_nm a d iv P (m + n) = ed_add a d iv (ed_nm a d iv P m) (ed_nm a d iv P n) := by
  intro n
  induction n with
  | zero => exact (ed_zero K _).symm
  | succ n ih =>
    show ed_add a d iv (ed_nm a d iv P (m + n)) P = ed_add a d iv (ed_nm a d iv P m) (ed_add a d iv (ed_nm a d iv P n) P)
    rw [ih]
    exact ed_assoc K (ed_nm_on K hP m) (ed_nm_on K hP n) hP
theorem ed_nm_mul {F : Type} [Lean.Grind.CommRing F] {a d i : F} {iv : F → F} (K : ed_K a d i iv) {P : F × F} (hP : ed_on a d P) (m : Nat) : ∀ n, ed_nm a d iv P (m * n) = ed_nm a d iv (ed_nm a d iv P m) n := by
  intro n
  induction n with
  | zero => rfl
  | succ n ih =>
    show ed_nm a d iv P (m * n + m) = ed_add a d iv (ed_nm a d iv (ed_nm a d iv P m) n) (ed_nm a d iv P m)
    rw [ed_nm_add K hP, ih]
theorem ed_swap4 {F : Type} [Lean.Grind.CommRing F] {a d i : F} {iv : F → F} (K : ed_K a d i iv) {P Q R T : F × F} (hP : ed_on a d P) (hQ : ed_on a d Q) (hR : ed_on a d R) (hT : ed_on a d T) : ed_add a d iv (ed_add a d iv P Q) (ed_add a d iv R T) = ed_add a d iv (ed_add a d iv P R) (ed_add a d iv Q T) := by
  rw [ed_assoc K hP hQ (ed_add_on K hR hT), ← ed_assoc K hQ hR hT, ed_comm a d iv Q R, ed_assoc K hR hQ hT, ← ed_assoc K hP hR (ed_add_on K hQ hT)]
theorem ed_nm_dist {F : Type} [Lean.Grind.CommRing F] {a d i : F} {iv : F → F} (K : ed_K a d i iv) {P Q : F × F} (hP : ed_on a d P) (hQ : ed_on a d Q) : ∀ n, ed_nm a d iv (ed_add a d iv P Q) n = ed_add a d iv (ed_nm a d iv P n) (ed_nm a d iv Q n) := by
  intro n
  induction n with
  | zero => exact (ed_zero K _).symm
  | succ n ih =>
    show ed_add a d iv (ed_nm a d iv (ed_add a d iv P Q) n) (ed_add a d iv P Q) = ed_add a d iv (ed_add a d iv (ed_nm a d iv P n) P) (ed_add a d iv (ed_nm a d iv Q n) Q)
    rw [ih]
    exact ed_swap4 K (ed_nm_on K hP n) (ed_nm_on K hQ n) hP hQ
theorem ed_nm_neg {F : Type} [Lean.Grind.CommRing F] {a d i : F} {iv : F → F} (K : ed_K a d i iv) {P : F × F} : ∀ n, ed_nm a d iv (ed_neg P) n = ed_neg (ed_nm a d iv P n) := by
  intro n
  induction n with
  | zero =>
    show ((0 : F), (1 : F)) = (-0, 1)
    refine Prod.ext ?_ rfl
    show (0 : F) = -0
    clear K
    grind
  | succ n ih =>
    show ed_add a d iv (ed_nm a d iv (ed_neg P) n) (ed_neg P) = ed_neg (ed_add a d iv (ed_nm a d iv P n) P)
    rw [ih, ed_neg_add]
/-- (x : y : z) stands for a point -/
def ed_rp {F : Type} [Lean.Grind.CommRing F] (x y z : F) (P : F × F) : Prop := z ≠ 0 ∧ x = P.1 * z ∧ y = P.2 * z
theorem ed_rp_sum {F : Type} [Lean.Grind.CommRing F] {a d i : F} {iv : F → F} (K : ed_K a d i iv) {P Q : F × F} {x1 y1 z1 x2 y2 z2 : F} (hP : ed_on a d P) (hQ : ed_on a d Q) (h1 : ed_rp x1 y1 z1 P) (h2 : ed_rp x2 y2 z2 Q) :
    ed_rp ((z1 * z2) * ((z1 * z2) * (z1 * z2) - (x1 * x2) * (y1 * y2) * d) * ((x1 + y1) * (x2 + y2) - x1 * x2 - y1 * y2)) ((z1 * z2) * ((z1 * z2) * (z1 * z2) + (x1 * x2) * (y1 * y2) * d) * (y1 * y2 - a * (x1 * x2))) (((z1 * z2) * (z1 * z2) - (x1 * x2) * (y1 * y2) * d) * ((z1 * z2) * (z1 * z2) + (x1 * x2) * (y1 * y2) * d)) (ed_add a d iv P Q) := by
  obtain ⟨c1, e1, f1⟩ := h1
  obtain ⟨c2, e2, f2⟩ := h2
  have hx := ed_ax K hP hQ
  have hy := ed_ay K hP hQ
  have hp := ed_pl K hP hQ
  have hm := ed_mi K hP hQ
  have hA := ed_mul0 K c1 c2
  have g1 : (z1 * z2) * (z1 * z2) - (x1 * x2) * (y1 * y2) * d = ((z1 * z2) * (z1 * z2)) * (1 - ed_D d P Q) := by
    unfold ed_D
    rw [e1, f1, e2, f2]
    clear hx hy hp hm hA hP hQ K
    grind
  have g2 : (z1 * z2) * (z1 * z2) + (x1 * x2) * (y1 * y2) * d = ((z1 * z2) * (z1 * z2)) * (1 + ed_D d P Q) := by
    unfold ed_D
    rw [e1, f1, e2, f2]
    clear hx hy hp hm hA hP hQ K
    grind
  have g3 : (x1 + y1) * (x2 + y2) - x1 * x2 - y1 * y2 = (z1 * z2) * (P.1 * Q.2 + P.2 * Q.1) := by
    rw [e1, f1, e2, f2]
    clear hx hy hp hm hA hP hQ K g1 g2
    grind
  have g4 : y1 * y2 - a * (x1 * x2) = (z1 * z2) * (P.2 * Q.2 - a * (P.1 * Q.1)) := by
    rw [e1, f1, e2, f2]
    clear hx hy hp hm hA hP hQ K g1 g2 g3
    grind
  rw [g1, g2, g3, g4, ← hx, ← hy]
  generalize (ed_add a d iv P Q) = R
  generalize 1 + ed_D d P Q = u at hp ⊢
  generalize 1 - ed_D d P Q = v at hm ⊢
  generalize z1 * z2 = w at hA ⊢
  refine ⟨ed_mul0 K (ed_mul0 K (ed_mul0 K hA hA) hm) (ed_mul0 K (ed_mul0 K hA hA) hp), ?_, ?_⟩
  · clear g1 g2 g3 g4 e1 e2 f1 f2 hx hy K
    grind
  · clear g1 g2 g3 g4 e1 e2 f1 f2 hx hy K
    grind
theorem ed_rp_to {F : Type} [Lean.Grind.CommRing F] {x y z x' y' z' : F} {P : F × F} (h : ed_rp x y z P) (h1 : x' = x) (h2 : y' = y) (h3 : z' = z) : ed_rp x' y' z' P := by
  rw [h1, h2, h3]
  exact h
/-- twice, by l = a x^2 + y^2 -/
theorem ed_rp_dbl {F : Type} [Lean.Grind.CommRing F] {a d i : F} {iv : F → F} (K : ed_K a d i iv) {P : F × F} {x y z : F} (hP : ed_on a d P) (h : ed_rp x y z P) :
    ed_rp ((x * y + x * y) * ((z * z + z * z) - (a * (x * x) + y * y))) ((y * y - a * (x * x)) * (a * (x * x) + y * y)) ((a * (x * x) + y * y) * ((z * z + z * z) - (a * (x * x) + y * y))) (ed_add a d iv P P) := by
  obtain ⟨c1, e1, f1⟩ := h
  have hx := ed_ax K hP hP
  have hy := ed_ay K hP hP
  have hp := ed_pl K hP hP
  have hm := ed_mi K hP hP
  have hA := ed_mul0 K c1 c1
  have ho : a * (P.1 * P.1) + P.2 * P.2 = 1 + d * (P.1 * P.1) * (P.2 * P.2) := hP
  have g1 : a * (x * x) + y * y = (z * z) * (1 + ed_D d P P) := by
    unfold ed_D
    rw [e1, f1]
    have : a * (P.1 * z * (P.1 * z)) + P.2 * z * (P.2 * z) = (z * z) * (a * (P.1 * P.1) + P.2 * P.2) := by
      clear hx hy hp hm hA hP K ho
      grind
    rw [this, ho]
  have g2 : (z * z + z * z) - (a * (x * x) + y * y) = (z * z) * (1 - ed_D d P P) := by
    rw [g1]
    generalize ed_D d P P = u
    clear hx hy hp hm hA hP K ho g1 e1 f1
    grind
  have g3 : x * y + x * y = (z * z) * (P.1 * P.2 + P.2 * P.1) := by
    rw [e1, f1]
    clear hx hy hp hm hA hP K ho g1 g2
    grind
  have g4 : y * y - a * (x * x) = (z * z) * (P.2 * P.2 - a * (P.1 * P.1)) := by
    rw [e1, f1]
    clear hx hy hp hm hA hP K ho g1 g2 g3
    grind
  rw [g2, g1, g3, g4, ← hx, ← hy]
  generalize (ed_add a d iv P P) = R
  generalize 1 + ed_D d P P = u at hp ⊢
  generalize 1 - ed_D d P P = v at hm ⊢
  generalize z * z = w at hA ⊢
  refine ⟨ed_mul0 K (ed_mul0 K hA hp) (ed_mul0 K hA hm), ?_, ?_⟩
  · clear g1 g2 g3 g4 e1 f1 hx hy K ho
    grind
  · clear g1 g2 g3 g4 e1 f1 hx hy K ho
    grind
theorem ed_rp_eq {F : Type} [Lean.Grind.CommRing F] {a d i : F} {iv : F → F} (K : ed_K a d i iv) {P Q : F × F} {x1 y1 z1 x2 y2 z2 : F} (h1 : ed_rp x1 y1 z1 P) (h2 : ed_rp x2 y2 z2 Q) : (x1 * z2 = x2 * z1 ∧ y1 * z2 = y2 * z1) ↔ P = Q := by
  obtain ⟨c1, e1, f1⟩ := h1
  obtain ⟨c2, e2, f2⟩ := h2
  have hA := ed_mul0 K c1 c2
  rw [e1, e2, f1, f2]
  constructor
  · rintro ⟨q1, q2⟩
    refine Prod.ext (ed_can K hA ?_) (ed_can K hA ?_)
    · clear hA e1 e2 f1 f2 K q2
      grind
    · clear hA e1 e2 f1 f2 K q1
      grind
  · intro q
    subst q
    clear hA e1 e2 f1 f2 K
    exact ⟨by grind, by grind⟩
theorem ed_rp_nt {F : Type} [Lean.Grind.CommRing F] {a d i : F} {iv : F → F} (K : ed_K a d i iv) {P : F × F} {x y z : F} (h : ed_rp x y z P) : (x = 0 ∧ y = z) ↔ P = (0, 1) := by
  obtain ⟨c1, e1, f1⟩ := h
  constructor
  · rintro ⟨q1, q2⟩
    refine Prod.ext (ed_can K c1 ?_) (ed_can K c1 ?_)
    · show P.1 * z = 0 * z
      rw [← e1, q1]
      clear e1 f1 q1 q2 K c1
      grind
    · show P.2 * z = 1 * z
      rw [← f1, q2]
      clear e1 f1 q1 q2 K c1
      grind
  · intro q
    rw [e1, f1, q]
    clear e1 f1 q K c1
    exact ⟨by show (0 : F) * z = 0; grind, by show (1 : F) * z = z; grind⟩
theorem ed_rp_neg {F : Type} [Lean.Grind.CommRing F] {P : F × F} {x y z : F} (h : ed_rp x y z P) : ed_rp (-x) y z (ed_neg P) := by
  obtain ⟨c1, e1, f1⟩ := h
  refine ⟨c1, ?_, f1⟩
  show -x = -P.1 * z
  rw [e1]
  clear e1 f1 c1
  grind
theorem ed_rp_enc {F : Type} [Lean.Grind.CommRing F] {a d i : F} {iv : F → F} (K : ed_K a d i iv) {P : F × F} {x y z : F} (h : ed_rp x y z P) : x * iv z = P.1 ∧ y * iv z = P.2 := by
  obtain ⟨c1, e1, f1⟩ := h
  have hi := K.2.1 z c1
  rw [e1, f1]
  have e : ∀ u : F, u * z * iv z = u := fun u => by
    have : u * z * iv z = u * (z * iv z) := by clear hi e1 f1 c1 K; grind
    rw [this, hi]
    clear hi e1 f1 c1 K this
    grind
  exact ⟨e _, e _⟩
theorem ed_rp_1 {F : Type} [Lean.Grind.CommRing F] {a d i : F} {iv : F → F} (K : ed_K a d i iv) (P : F × F) : ed_rp P.1 P.2 1 P := ⟨K.2.2.1.1, by clear K; grind, by clear K; grind⟩
/-- x for y: x^2 v = u -/
theorem ed_xy {F : Type} [Lean.Grind.CommRing F] (a d x y : F) : ed_on a d (x, y) ↔ x * x * (d * (y * y) - a) = y * y - 1 := by
  constructor
  · intro h
    have h' : a * (x * x) + y * y = 1 + d * (x * x) * (y * y) := h
    clear h
    grind
  · intro h
    show a * (x * x) + y * y = 1 + d * (x * x) * (y * y)
    grind
theorem ed_v0 {F : Type} [Lean.Grind.CommRing F] {a d i : F} {iv : F → F} (K : ed_K a d i iv) (y : F) : d * (y * y) - a ≠ 0 := by
  intro h
  have hi := K.2.2.2.1
  by_cases c : y = 0
  · rw [c] at h
    refine hi.2 ?_
    clear hi K c
    grind
  · refine ed_nsq K (v := i) (w := y) c ?_
    rw [hi.1]
    clear hi K c
    grind
theorem ed_two {F : Type} [Lean.Grind.CommRing F] {a d i : F} {iv : F → F} (K : ed_K a d i iv) {x x' : F} {v : F} (hv : v ≠ 0) (h : x * x * v = x' * x' * v) : x = x' ∨ x = -x' := by
  have e := ed_can K hv h
  have e2 : (x - x') * (x + x') = 0 := by clear h hv K; grind
  rcases K.1 _ _ e2 with q | q
  · exact Or.inl (by clear e e2 h hv K; grind)
  · exact Or.inr (by clear e e2 h hv K; grind)
end
