/-! who drives a wire -/
section MEAN
variable {m g : Mem} {n : Nat} {A : Nat → Int32}
theorem drivers_0 {w : Nat} (hcc : CC m g n) (hw : w < 24) : m 12 w ≤ 0 ↔ S_drv g n w = -1 := by
  have hn := hcc.1
  have hle := S_ndr_le g w n
  rw [hcc.2.2.2.2.1 w hw, drv_0 hn]
  constructor
  · intro h
    rcases Nat.eq_zero_or_pos (S_ndr g w n) with e | e
    · exact e
    · exact absurd h (nI_nle e (by omega))
  · intro h
    rw [h]; decide
end MEAN
