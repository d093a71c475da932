/-! what is left of a program, and the row that says what it answers -/
def xq_lt {α β : Type} (x : α) (K : α → β) : β := K x
theorem xq_le {α β : Type} {x v : α} {K : α → β} {R : β} (q : v = x) (E : xq_lt x K = R) : K v = R := by subst q; exact E
def xq_c2 {α β γ : Type} (p : α × β) (K : α → β → γ) : γ := K p.1 p.2
theorem xq_e2 {α β γ : Type} {p : α × β} {a : α} {b : β} {K : α → β → γ} {R : γ} (h : (a, b) = p) (E : xq_c2 p K = R) : K a b = R := by subst h; exact E
def xq_c3 {α β γ δ : Type} (p : α × β × γ) (K : α → β → γ → δ) : δ := K p.1 p.2.1 p.2.2
theorem xq_e3 {α β γ δ : Type} {p : α × β × γ} {a : α} {b : β} {c : γ} {K : α → β → γ → δ} {R : δ} (h : (a, b, c) = p) (E : xq_c3 p K = R) : K a b c = R := by subst h; exact E
theorem xq_ep {α : Type} {c : Prop} {i : Decidable c} {A B R : α} (h : c) (E : (if c then A else B) = R) : A = R := (if_pos h).symm.trans E
theorem xq_en {α : Type} {c : Prop} {i : Decidable c} {A B R : α} (h : ¬ c) (E : (if c then A else B) = R) : B = R := (if_neg h).symm.trans E
theorem xq_ef {α : Type} {b : Bool} {i : Decidable (b = true)} {A B R : α} (h : b = false) (E : (if b = true then A else B) = R) : B = R := (if_neg (by rw [h]; decide)).symm.trans E
