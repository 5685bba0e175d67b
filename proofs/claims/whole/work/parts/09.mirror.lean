section SNI
/-! a mirror's text, mended in place -/
def sn_tm (k p m : Nat) (t : Nat → Int32) : Nat → Int32 := fun j => if p ≤ j ∧ j < p + m then sn_tc k (j - p) (t j) else t j
theorem sn_tm0 (k p : Nat) (t : Nat → Int32) : sn_tm k p 0 t = t := by
  funext j; unfold sn_tm; exact if_neg (by omega)
theorem sn_tmA (k p m : Nat) (t : Nat → Int32) : sn_tm k p m t (p + m) = t (p + m) := by
  unfold sn_tm; exact if_neg (by omega)
theorem sn_tmS (k p m : Nat) (t : Nat → Int32) : upd (sn_tm k p m t) (p + m) (sn_tc k m (t (p + m))) = sn_tm k p (m + 1) t := by
  funext j; unfold sn_tm upd
  by_cases z : j = p + m
  · rw [if_pos z, if_pos (by omega), z, show p + m - p = m by omega]
  · rw [if_neg z]
    dsimp only
    by_cases y : p ≤ j ∧ j < p + m
    · rw [if_pos y, if_pos (by omega)]
    · rw [if_neg y, if_neg (by omega)]
theorem sn_tmE (k p : Nat) (t : Nat → Int32) (l : List Int32) : sn_tm k p l.length (sn_wr t p l) = sn_wr t p (sn_tr k l) := by
  funext j; unfold sn_tm sn_wr
  rw [sn_trL]
  by_cases y : p ≤ j ∧ j < p + l.length
  · rw [if_pos y, if_pos y, if_pos y]
    unfold sn_tr
    rw [sn_lsA (by omega)]
  · rw [if_neg y, if_neg y, if_neg y]
theorem sn_tm7 (p : Nat) (t : Nat → Int32) (l : List Int32) (h : 1 ≤ l.length) : sn_tm 7 p 1 (sn_wr t p l) = sn_wr t p (sn_tr 7 l) := by
  rw [← sn_tmE]
  funext j; unfold sn_tm
  by_cases y : p ≤ j ∧ j < p + l.length
  · rw [if_pos y]
    by_cases z : p ≤ j ∧ j < p + 1
    · rw [if_pos z]
    · rw [if_neg z]
      unfold sn_tc
      rw [if_neg (by omega), if_neg (by omega), if_neg (by omega)]
  · rw [if_neg y, if_neg (by omega)]
theorem sn_tc4 (j : Nat) (x : Int32) : sn_tc 4 j x = x := by
  unfold sn_tc; rw [if_neg (by omega), if_neg (by omega), if_neg (by omega)]
theorem sn_tm4 (p m : Nat) (t : Nat → Int32) : sn_tm 4 p m t = t := by
  funext j; unfold sn_tm
  by_cases y : p ≤ j ∧ j < p + m
  · rw [if_pos y, sn_tc4]
  · rw [if_neg y]
end SNI
