section SNK
/-! X: groups and snapshots -/
theorem sn_ad {x y : Int32} (a b : Nat) (hx : x = nI a) (hy : y = nI b := by rfl) : x + y = nI (a + b) := by rw [hx, hy, nI_add]
theorem sn_mu {x y : Int32} (a b : Nat) (hx : x = nI a) (hy : y = nI b := by rfl) : x * y = nI (a * b) := by rw [hx, hy, pk_mul]
theorem sn_sb {x y : Int32} (a b : Nat) (h : b ≤ a) (hx : x = nI a) (hy : y = nI b := by rfl) : x - y = nI (a - b) := by rw [hx, hy, pk_sub h]
theorem sn_xsvI {xh xh1 t L T : Nat → Int32} {e d : Nat} {ln cr se ac sl : Int32} (h : ∀ j, j < 159 * d → xh1 j = xh (e + j)) :
    sn_xsv xh (sn_cp T 0 (sn_cp L 0 (sn_cp t 0 (upd (upd (upd (upd (upd xh1 (159 * d) ln) (159 * d + 1) cr) (159 * d + 2) se) (159 * d + 3) ac) (159 * d + 4) sl) (159 * d + 5) 64) (159 * d + 69) 10) (159 * d + 79) 80) e d ln cr se ac sl t L T := by
  refine ⟨fun j hj => ?_, ?_, ?_, ?_, ?_, ?_, fun k hk => ?_, fun k hk => ?_, fun k hk => ?_⟩
  · rw [sn_cpO (by omega), sn_cpO (by omega), sn_cpO (by omega), pk_un (by omega), pk_un (by omega), pk_un (by omega), pk_un (by omega), pk_un (by omega)]; exact h j hj
  · rw [sn_cpO (by omega), sn_cpO (by omega), sn_cpO (by omega), pk_un (by omega), pk_un (by omega), pk_un (by omega), pk_un (by omega), pk_us]
  · rw [sn_cpO (by omega), sn_cpO (by omega), sn_cpO (by omega), pk_un (by omega), pk_un (by omega), pk_un (by omega), pk_us]
  · rw [sn_cpO (by omega), sn_cpO (by omega), sn_cpO (by omega), pk_un (by omega), pk_un (by omega), pk_us]
  · rw [sn_cpO (by omega), sn_cpO (by omega), sn_cpO (by omega), pk_un (by omega), pk_us]
  · rw [sn_cpO (by omega), sn_cpO (by omega), sn_cpO (by omega), pk_us]
  · rw [sn_cpO (by omega), sn_cpO (by omega), sn_cpI hk, Nat.zero_add]
  · rw [sn_cpO (by omega), sn_cpI (by omega), Nat.zero_add]
  · rw [sn_cpI hk, Nat.zero_add]
variable {f_capacity f_historyCap f_length f_caret f_selStart f_bodyLength f_undoDepth f_merge f_itemCount f_baseLength f_basePos f_activeStop f_selected f_draftCount f_depth f_readAt : Int32} {a_text a_body a_history a_itemKind a_itemValue a_openAt a_closeAt a_base a_typedLength a_typedText a_draftKind a_draftValue a_draftOpenAt a_draftCloseAt a_enclosing a_trialLength : Nat → Int32}
variable {post : SX → Prop}
theorem sn_xg15 {xh : Nat → Int32} (e d : Nat) (hd : d < 16) (hb : sn_b1 f_selected) (hs : ∀ j, j < 159 * d → a_history j = xh (e + j))
    (h : ∀ xh', sn_xsv xh xh' e d f_length f_caret f_selStart f_activeStop f_selected a_text a_typedLength a_typedText → post (f_capacity, f_historyCap, f_length, f_caret, f_selStart, f_bodyLength, nI (d + 1), f_merge, f_itemCount, f_baseLength, f_basePos, f_activeStop, f_selected, f_draftCount, f_depth, f_readAt, a_text, a_body, xh', a_itemKind, a_itemValue, a_openAt, a_closeAt, a_base, a_typedLength, a_typedText, a_draftKind, a_draftValue, a_draftOpenAt, a_draftCloseAt, a_enclosing, a_trialLength)) : wX_startGroup_15 post f_capacity f_historyCap f_length f_caret f_selStart f_bodyLength (nI d) f_merge f_itemCount f_baseLength f_basePos f_activeStop f_selected f_draftCount f_depth f_readAt a_text a_body a_history a_itemKind a_itemValue a_openAt a_closeAt a_base a_typedLength a_typedText a_draftKind a_draftValue a_draftOpenAt a_draftCloseAt a_enclosing a_trialLength := by
  intro x1 ex1
  have hx : x1 = nI (159 * d) := by rw [ex1, sn_mu d 159 rfl, Nat.mul_comm]
  have c0 : (x1 + 0).toNatClampNeg = 159 * d := pk_cl (159 * d) (sn_ad (159 * d) 0 hx)
  have c1 : (x1 + 1).toNatClampNeg = 159 * d + 1 := pk_cl (159 * d + 1) (sn_ad (159 * d) 1 hx)
  have c2 : (x1 + 2).toNatClampNeg = 159 * d + 2 := pk_cl (159 * d + 2) (sn_ad (159 * d) 2 hx)
  have c3 : (x1 + 3).toNatClampNeg = 159 * d + 3 := pk_cl (159 * d + 3) (sn_ad (159 * d) 3 hx)
  have c4 : (x1 + 4).toNatClampNeg = 159 * d + 4 := pk_cl (159 * d + 4) (sn_ad (159 * d) 4 hx)
  refine ⟨pk_in (159 * d) 2544 (by omega) (sn_ad (159 * d) 0 hx), ?_⟩
  intro y1 e1
  refine ⟨pk_in (159 * d + 1) 2544 (by omega) (sn_ad (159 * d) 1 hx), ?_⟩
  intro y2 e2
  refine ⟨pk_in (159 * d + 2) 2544 (by omega) (sn_ad (159 * d) 2 hx), ?_⟩
  intro y3 e3
  refine ⟨pk_in (159 * d + 3) 2544 (by omega) (sn_ad (159 * d) 3 hx), ?_⟩
  intro y4 e4
  rw [c0] at e1
  rw [c1] at e2
  rw [c2] at e3
  rw [c3] at e4
  subst e1 e2 e3 e4
  have go : ∀ z : Int32, z = f_selected → wX_startGroup_91 post x1 z (x1 + 4) f_capacity f_historyCap f_length f_caret f_selStart f_bodyLength (nI d) f_merge f_itemCount f_baseLength f_basePos f_activeStop f_selected f_draftCount f_depth f_readAt a_text a_body (upd (upd (upd (upd a_history (159 * d) f_length) (159 * d + 1) f_caret) (159 * d + 2) f_selStart) (159 * d + 3) f_activeStop) a_itemKind a_itemValue a_openAt a_closeAt a_base a_typedLength a_typedText a_draftKind a_draftValue a_draftOpenAt a_draftCloseAt a_enclosing a_trialLength := by
    intro z ez
    refine ⟨pk_in (159 * d + 4) 2544 (by omega) (sn_ad (159 * d) 4 hx), ?_⟩
    intro y5 e5
    rw [c4, ez] at e5
    subst e5
    refine sn_xc_text_history 0 (159 * d + 5) 64 rfl (sn_ad (159 * d) 5 hx) rfl (by omega) (by omega) ?_
    refine sn_xc_typedLength_history 0 (159 * d + 69) 10 rfl (sn_ad (159 * d) 69 hx) rfl (by omega) (by omega) ?_
    refine sn_xc_typedText_history 0 (159 * d + 79) 80 rfl (sn_ad (159 * d) 79 hx) rfl (by omega) (by omega) ?_
    intro u eu
    rw [eu, nI_1]
    exact h _ (sn_xsvI hs)
  rcases hb with b | b
  · exact br_t b (go 0 b.symm)
  · exact br_f (by rw [b]; decide) (go 1 b.symm)
theorem sn_xgrp (e d dep hc : Nat) (h16 : hc ≤ 16) (hed : (dep < hc ∧ e = 0 ∧ d = dep) ∨ (dep = hc ∧ e = 1 ∧ d + 1 = dep)) (hb : sn_b1 f_selected)
    (h : ∀ xh', sn_xsv a_history xh' (159 * e) d f_length f_caret f_selStart f_activeStop f_selected a_text a_typedLength a_typedText → post (f_capacity, nI hc, f_length, f_caret, f_selStart, f_bodyLength, nI (d + 1), f_merge, f_itemCount, f_baseLength, f_basePos, f_activeStop, f_selected, f_draftCount, f_depth, f_readAt, a_text, a_body, xh', a_itemKind, a_itemValue, a_openAt, a_closeAt, a_base, a_typedLength, a_typedText, a_draftKind, a_draftValue, a_draftOpenAt, a_draftCloseAt, a_enclosing, a_trialLength)) :
    wpX_startGroup post (f_capacity, nI hc, f_length, f_caret, f_selStart, f_bodyLength, nI dep, f_merge, f_itemCount, f_baseLength, f_basePos, f_activeStop, f_selected, f_draftCount, f_depth, f_readAt, a_text, a_body, a_history, a_itemKind, a_itemValue, a_openAt, a_closeAt, a_base, a_typedLength, a_typedText, a_draftKind, a_draftValue, a_draftOpenAt, a_draftCloseAt, a_enclosing, a_trialLength) := by
  rcases hed with ⟨h1, h2, h3⟩ | ⟨h1, h2, h3⟩
  · subst h2 h3
    exact br_t (nI_lt h1 (by omega)) (sn_xg15 0 d (by omega) hb (fun j _ => by rw [Nat.zero_add]) h)
  · subst h2 h1
    refine br_f (nI_nlt (Nat.le_refl _) (by omega)) ?_
    intro y ey
    have hy : y = nI d := by rw [ey, ← h3, nI_pred]
    subst hy
    refine sn_xc_history_history 159 0 (159 * d) rfl rfl (by rw [sn_mu d 159 rfl, Nat.mul_comm]) (by omega) (by omega) (by omega) ?_
    refine sn_xg15 159 d (by omega) hb (fun j hj => ?_) h
    have q := sn_cpI (a := a_history) (b := a_history) (p := 159) (q := 0) (n := 159 * d) (j := j) hj
    rw [Nat.zero_add] at q
    exact q
/-- a snapshot comes back -/
theorem sn_xrst {x0 : Int32} (d : Nat) (hd : d < 16) (e0 : x0 = nI (159 * d)) (hb : sn_b1 (a_history (159 * d + 4)))
    (h : post (f_capacity, f_historyCap, a_history (159 * d), a_history (159 * d + 1), a_history (159 * d + 2), f_bodyLength, f_undoDepth, f_merge, f_itemCount, f_baseLength, f_basePos, a_history (159 * d + 3), a_history (159 * d + 4), f_draftCount, f_depth, f_readAt, sn_cp a_history (159 * d + 5) a_text 0 64, a_body, a_history, a_itemKind, a_itemValue, a_openAt, a_closeAt, a_base, sn_cp a_history (159 * d + 69) a_typedLength 0 10, sn_cp a_history (159 * d + 79) a_typedText 0 80, a_draftKind, a_draftValue, a_draftOpenAt, a_draftCloseAt, a_enclosing, a_trialLength)) :
    wpX_restoreSnapshot post (f_capacity, f_historyCap, f_length, f_caret, f_selStart, f_bodyLength, f_undoDepth, f_merge, f_itemCount, f_baseLength, f_basePos, f_activeStop, f_selected, f_draftCount, f_depth, f_readAt, a_text, a_body, a_history, a_itemKind, a_itemValue, a_openAt, a_closeAt, a_base, a_typedLength, a_typedText, a_draftKind, a_draftValue, a_draftOpenAt, a_draftCloseAt, a_enclosing, a_trialLength) x0 := by
  have c0 : (x0 + 0).toNatClampNeg = 159 * d := pk_cl (159 * d) (sn_ad (159 * d) 0 e0)
  have c1 : (x0 + 1).toNatClampNeg = 159 * d + 1 := pk_cl (159 * d + 1) (sn_ad (159 * d) 1 e0)
  have c2 : (x0 + 2).toNatClampNeg = 159 * d + 2 := pk_cl (159 * d + 2) (sn_ad (159 * d) 2 e0)
  have c3 : (x0 + 3).toNatClampNeg = 159 * d + 3 := pk_cl (159 * d + 3) (sn_ad (159 * d) 3 e0)
  have c4 : (x0 + 4).toNatClampNeg = 159 * d + 4 := pk_cl (159 * d + 4) (sn_ad (159 * d) 4 e0)
  refine ⟨pk_in (159 * d) 2544 (by omega) (sn_ad (159 * d) 0 e0), ?_⟩
  intro y1 e1
  refine ⟨pk_in (159 * d + 1) 2544 (by omega) (sn_ad (159 * d) 1 e0), ?_⟩
  intro y2 e2
  refine ⟨pk_in (159 * d + 2) 2544 (by omega) (sn_ad (159 * d) 2 e0), ?_⟩
  intro y3 e3
  refine ⟨pk_in (159 * d + 3) 2544 (by omega) (sn_ad (159 * d) 3 e0), ?_⟩
  intro y4 e4
  refine ⟨pk_in (159 * d + 4) 2544 (by omega) (sn_ad (159 * d) 4 e0), ?_⟩
  rw [c0] at e1
  rw [c1] at e2
  rw [c2] at e3
  rw [c3] at e4
  subst e1 e2 e3 e4
  rw [c4]
  have go : ∀ z : Int32, z = a_history (159 * d + 4) → sn_b1 z → wX_restoreSnapshot_66 post x0 z f_capacity f_historyCap (a_history (159 * d)) (a_history (159 * d + 1)) (a_history (159 * d + 2)) f_bodyLength f_undoDepth f_merge f_itemCount f_baseLength f_basePos (a_history (159 * d + 3)) f_selected f_draftCount f_depth f_readAt a_text a_body a_history a_itemKind a_itemValue a_openAt a_closeAt a_base a_typedLength a_typedText a_draftKind a_draftValue a_draftOpenAt a_draftCloseAt a_enclosing a_trialLength := by
    intro z ez hz
    refine ⟨?_, ?_, ?_⟩
    · rcases hz with b | b <;> rw [b] <;> rfl
    · rcases hz with b | b <;> rw [b] <;> rfl
    · refine sn_xc_history_text (159 * d + 5) 0 64 (sn_ad (159 * d) 5 e0) rfl rfl (by omega) (by omega) ?_
      refine sn_xc_history_typedLength (159 * d + 69) 0 10 (sn_ad (159 * d) 69 e0) rfl rfl (by omega) (by omega) ?_
      refine sn_xc_history_typedText (159 * d + 79) 0 80 (sn_ad (159 * d) 79 e0) rfl rfl (by omega) (by omega) ?_
      rw [ez]
      exact h
  rcases hb with b | b
  · exact br_f (by rw [b]; decide) (go 0 b.symm (Or.inl rfl))
  · exact br_t b (go 1 b.symm (Or.inr rfl))
end SNK
