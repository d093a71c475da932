/-! answers: mean, joint, mended, helps, alone -/
theorem pt_eq {A : Nat → Nat → Int32} {n m : Nat} {sr cr ch ch2 : Nat → Int32} {s : Int32} (hch : ∀ p, p < n → ch p = ch2 p) : fR (ptF A n sr cr ch s) (2 ^ n) m 0 = fR (ptF A n sr cr ch2 s) (2 ^ n) m 0 := by
  refine fR_c m 0 (fun r b a hr hb => ?_)
  unfold ptF
  rw [wB_c (ch2 := ch2) (b2 := b) n (fun q hq => ⟨hch q hq, rfl⟩)]
/-! chances kept and mended, of the reference -/
