section SOA
/-! the methods that render nothing -/
theorem sn_rng {x : Int32} : (x < 32 ∨ 126 < x) ∨ (¬ x < 32 ∧ ¬ 126 < x) := by
  by_cases a : x < 32
  · exact Or.inl (Or.inl a)
  · by_cases b : 126 < x
    · exact Or.inl (Or.inr b)
    · exact Or.inr ⟨a, b⟩
theorem sn_xcode {post : Int32 → Prop} {x : Int32} (h0 : (x < 32 ∨ (¬ x < 32 ∧ 126 < x)) → post 0) (h1 : ¬ x < 32 → ¬ 126 < x → post 1) : wpX_isCode post x := by
  by_cases a : x < 32
  · exact br_t a (h0 (Or.inl a))
  · by_cases b : 126 < x
    · exact br_f a (br_t b (h0 (Or.inr ⟨a, b⟩)))
    · exact br_f a (br_f b (h1 a b))
variable {f_capacity f_historyCap f_length f_caret f_selStart f_bodyLength f_undoDepth f_merge f_itemCount f_baseLength f_basePos f_activeStop f_selected f_draftCount f_depth f_readAt : Int32} {a_text a_body a_history a_itemKind a_itemValue a_openAt a_closeAt a_base a_typedLength a_typedText a_draftKind a_draftValue a_draftOpenAt a_draftCloseAt a_enclosing a_trialLength : Nat → Int32}
theorem sn_xins {post : Int32 → Prop} (h0 : f_activeStop = -1 → post 0) (h1 : ¬ f_activeStop = -1 → post 1) : wpX_inSession post (f_capacity, f_historyCap, f_length, f_caret, f_selStart, f_bodyLength, f_undoDepth, f_merge, f_itemCount, f_baseLength, f_basePos, f_activeStop, f_selected, f_draftCount, f_depth, f_readAt, a_text, a_body, a_history, a_itemKind, a_itemValue, a_openAt, a_closeAt, a_base, a_typedLength, a_typedText, a_draftKind, a_draftValue, a_draftOpenAt, a_draftCloseAt, a_enclosing, a_trialLength) := by
  by_cases a : f_activeStop = -1
  · exact br_t a (h0 a)
  · exact br_f a (h1 a)
end SOA
section SOB
theorem i_vc_feed {k : Nat} {u : SX} {v : SY} (I : i_Rel k u v) (hk : k + 3 ≤ 1538) (v1 : Int32) : wpX_feed (fun r u' => wpY_feed (fun r' v' => r' = r ∧ i_Rel (k + 3) u' v') v v1) u v1 := by
  obtain ⟨cap, hc, dep, n, sb, bl, bp, i, c, d, st, K, V, S, oa, ca, sg, dp, pa, f_length, f_caret, f_selStart, f_merge, f_itemCount, f_activeStop, f_selected, f_draftCount, f_depth, f_readAt, y_session, y_selected, y_nItems, y_finalIdx, y_fromStruct, y_rlen, y_tlen, y_svF, y_svL, a_text, a_body, a_history, a_itemKind, a_itemValue, a_openAt, a_closeAt, a_base, a_typedLength, a_typedText, a_draftKind, a_draftValue, a_draftOpenAt, a_draftCloseAt, a_enclosing, a_trialLength, b_sBody, b_typed, b_tLen, b_kind, b_val, b_stopOf, b_par, b_ipos, b_prim, b_stack, b_occ, b_rbuf, b_tbuf, b_svT, b_hist, rfl, rfl, R⟩ := I
  have J : i_Rel (k + 3) (nI cap, nI hc, f_length, f_caret, f_selStart, nI n, nI dep, f_merge, f_itemCount, nI bl, nI bp, f_activeStop, f_selected, f_draftCount, f_depth, f_readAt, a_text, a_body, a_history, a_itemKind, a_itemValue, a_openAt, a_closeAt, a_base, a_typedLength, a_typedText, a_draftKind, a_draftValue, a_draftOpenAt, a_draftCloseAt, a_enclosing, a_trialLength) (nI cap, nI hc, f_length, f_caret, f_selStart, nI n, nI sb, f_merge, y_session, y_selected, f_activeStop, y_nItems, y_finalIdx, y_fromStruct, nI bl, nI bp, y_rlen, y_tlen, 0, y_svF, y_svL, nI dep, a_text, a_body, b_sBody, b_typed, b_tLen, a_typedText, b_kind, b_val, b_stopOf, b_par, b_ipos, b_prim, b_stack, b_occ, a_base, b_rbuf, b_tbuf, b_svT, b_hist) := sn_mk R
  have n64 := R.1.2.2.2.2.2.1
  unfold wpX_feed
  refine sn_xcode (fun q => br_t rfl ?_) (fun q1 q2 => br_f (by decide) ?_)
  · rcases q with q | ⟨q1, q2⟩
    · exact br_t q ⟨rfl, J⟩
    · exact br_f q1 (br_f (Int32.not_le.mpr q2) ⟨rfl, J⟩)
  · by_cases z : n < 64
    · have lt : nI n < (64 : Int32) := nI_lt (b := 64) z (by omega)
      have vi : vp_in (nI n) 64 := vp_in_nI z (by omega)
      refine br_t lt ⟨vi, fun y ey w ew => br_f q1 (br_t (Int32.not_lt.mp q2) (br_t lt ⟨vi, fun y' ey' w' ew' => ⟨rfl, ?_⟩⟩))⟩
      rw [nI_1] at ew ew'
      subst ey ey' ew ew'
      exact sn_mk (n := n + 1) ⟨⟨R.1.1, R.1.2.1, R.1.2.2.1, R.1.2.2.2.1, R.1.2.2.2.2.1, by omega, R.1.2.2.2.2.2.2⟩, R.2⟩
    · have nlt : ¬ nI n < (64 : Int32) := nI_nlt (b := 64) (by omega) (by omega)
      exact br_f nlt (br_f q1 (br_t (Int32.not_lt.mp q2) (br_f nlt ⟨rfl, J⟩)))
theorem i_vc_clearSnippet {k : Nat} {u : SX} {v : SY} (I : i_Rel k u v) (hk : k + 3 ≤ 1538) : wpX_clearSnippet (fun u' => wpY_clearSnippet (fun v' => i_Rel (k + 3) u' v') v) u := by
  obtain ⟨cap, hc, dep, n, sb, bl, bp, i, c, d, st, K, V, S, oa, ca, sg, dp, pa, f_length, f_caret, f_selStart, f_merge, f_itemCount, f_activeStop, f_selected, f_draftCount, f_depth, f_readAt, y_session, y_selected, y_nItems, y_finalIdx, y_fromStruct, y_rlen, y_tlen, y_svF, y_svL, a_text, a_body, a_history, a_itemKind, a_itemValue, a_openAt, a_closeAt, a_base, a_typedLength, a_typedText, a_draftKind, a_draftValue, a_draftOpenAt, a_draftCloseAt, a_enclosing, a_trialLength, b_sBody, b_typed, b_tLen, b_kind, b_val, b_stopOf, b_par, b_ipos, b_prim, b_stack, b_occ, b_rbuf, b_tbuf, b_svT, b_hist, rfl, rfl, R⟩ := I
  exact sn_mk (k := k + 3) (n := 0) ⟨⟨R.1.1, R.1.2.1, R.1.2.2.1, R.1.2.2.2.1, R.1.2.2.2.2.1, by omega, R.1.2.2.2.2.2.2⟩, R.2⟩
theorem i_vc_bodyCharAt {k : Nat} {u : SX} {v : SY} (I : i_Rel k u v) (hk : k + 3 ≤ 1538) (v1 : Int32) : wpX_bodyCharAt (fun r => wpY_bodyCharAt (fun r' => r' = r ∧ i_Rel (k + 3) u v) v v1) u v1 := by
  obtain ⟨cap, hc, dep, n, sb, bl, bp, i, c, d, st, K, V, S, oa, ca, sg, dp, pa, f_length, f_caret, f_selStart, f_merge, f_itemCount, f_activeStop, f_selected, f_draftCount, f_depth, f_readAt, y_session, y_selected, y_nItems, y_finalIdx, y_fromStruct, y_rlen, y_tlen, y_svF, y_svL, a_text, a_body, a_history, a_itemKind, a_itemValue, a_openAt, a_closeAt, a_base, a_typedLength, a_typedText, a_draftKind, a_draftValue, a_draftOpenAt, a_draftCloseAt, a_enclosing, a_trialLength, b_sBody, b_typed, b_tLen, b_kind, b_val, b_stopOf, b_par, b_ipos, b_prim, b_stack, b_occ, b_rbuf, b_tbuf, b_svT, b_hist, rfl, rfl, R⟩ := I
  have J : i_Rel (k + 3) (nI cap, nI hc, f_length, f_caret, f_selStart, nI n, nI dep, f_merge, f_itemCount, nI bl, nI bp, f_activeStop, f_selected, f_draftCount, f_depth, f_readAt, a_text, a_body, a_history, a_itemKind, a_itemValue, a_openAt, a_closeAt, a_base, a_typedLength, a_typedText, a_draftKind, a_draftValue, a_draftOpenAt, a_draftCloseAt, a_enclosing, a_trialLength) (nI cap, nI hc, f_length, f_caret, f_selStart, nI n, nI sb, f_merge, y_session, y_selected, f_activeStop, y_nItems, y_finalIdx, y_fromStruct, nI bl, nI bp, y_rlen, y_tlen, 0, y_svF, y_svL, nI dep, a_text, a_body, b_sBody, b_typed, b_tLen, a_typedText, b_kind, b_val, b_stopOf, b_par, b_ipos, b_prim, b_stack, b_occ, a_base, b_rbuf, b_tbuf, b_svT, b_hist) := sn_mk R
  have n64 := R.1.2.2.2.2.2.1
  by_cases a : v1 < 0
  · exact br_t a (br_t a ⟨rfl, J⟩)
  · by_cases b : v1 < nI n
    · obtain ⟨j, hj, rfl⟩ := nI_of a
      have z : j < n := (nI_ltI hj (by omega)).mp b
      have vi : vp_in (nI j) 64 := vp_in_nI (by omega) (by omega)
      exact br_f a (br_t b ⟨vi, br_f a (br_t b ⟨vi, rfl, J⟩)⟩)
    · exact br_f a (br_f b (br_f a (br_f b ⟨rfl, J⟩)))
theorem i_vc_charAt {k : Nat} {u : SX} {v : SY} (I : i_Rel k u v) (hk : k + 3 ≤ 1538) (v1 : Int32) : wpX_charAt (fun r => wpY_charAt (fun r' => r' = r ∧ i_Rel (k + 3) u v) v v1) u v1 := by
  obtain ⟨cap, hc, dep, n, sb, bl, bp, i, c, d, st, K, V, S, oa, ca, sg, dp, pa, f_length, f_caret, f_selStart, f_merge, f_itemCount, f_activeStop, f_selected, f_draftCount, f_depth, f_readAt, y_session, y_selected, y_nItems, y_finalIdx, y_fromStruct, y_rlen, y_tlen, y_svF, y_svL, a_text, a_body, a_history, a_itemKind, a_itemValue, a_openAt, a_closeAt, a_base, a_typedLength, a_typedText, a_draftKind, a_draftValue, a_draftOpenAt, a_draftCloseAt, a_enclosing, a_trialLength, b_sBody, b_typed, b_tLen, b_kind, b_val, b_stopOf, b_par, b_ipos, b_prim, b_stack, b_occ, b_rbuf, b_tbuf, b_svT, b_hist, rfl, rfl, R⟩ := I
  have J : i_Rel (k + 3) (nI cap, nI hc, f_length, f_caret, f_selStart, nI n, nI dep, f_merge, f_itemCount, nI bl, nI bp, f_activeStop, f_selected, f_draftCount, f_depth, f_readAt, a_text, a_body, a_history, a_itemKind, a_itemValue, a_openAt, a_closeAt, a_base, a_typedLength, a_typedText, a_draftKind, a_draftValue, a_draftOpenAt, a_draftCloseAt, a_enclosing, a_trialLength) (nI cap, nI hc, f_length, f_caret, f_selStart, nI n, nI sb, f_merge, y_session, y_selected, f_activeStop, y_nItems, y_finalIdx, y_fromStruct, nI bl, nI bp, y_rlen, y_tlen, 0, y_svF, y_svL, nI dep, a_text, a_body, b_sBody, b_typed, b_tLen, a_typedText, b_kind, b_val, b_stopOf, b_par, b_ipos, b_prim, b_stack, b_occ, a_base, b_rbuf, b_tbuf, b_svT, b_hist) := sn_mk R
  have c64 := R.1.2.1
  obtain ⟨_, _, l, q, el, eq, hl, hlc, _⟩ := R.2.2.1
  subst el
  by_cases a : v1 < 0
  · exact br_t a (br_t a ⟨rfl, J⟩)
  · by_cases b : v1 < nI l
    · obtain ⟨j, hj, rfl⟩ := nI_of a
      have z : j < l := (nI_ltI hj (by omega)).mp b
      have vi : vp_in (nI j) 64 := vp_in_nI (by omega) (by omega)
      exact br_f a (br_t b ⟨vi, br_f a (br_f (Int32.not_le.mpr b) (br_t (nI_lt (b := 64) (by omega) (by omega)) ⟨vi, rfl, J⟩))⟩)
    · exact br_f a (br_f b (br_f a (br_t (Int32.not_lt.mp b) ⟨rfl, J⟩)))
theorem i_vc_setCaret {k : Nat} {u : SX} {v : SY} (I : i_Rel k u v) (hk : k + 3 ≤ 1538) (v1 : Int32) : wpX_setCaret (fun r u' => wpY_setCaret (fun r' v' => r' = r ∧ i_Rel (k + 3) u' v') v v1) u v1 := by
  obtain ⟨cap, hc, dep, n, sb, bl, bp, i, c, d, st, K, V, S, oa, ca, sg, dp, pa, f_length, f_caret, f_selStart, f_merge, f_itemCount, f_activeStop, f_selected, f_draftCount, f_depth, f_readAt, y_session, y_selected, y_nItems, y_finalIdx, y_fromStruct, y_rlen, y_tlen, y_svF, y_svL, a_text, a_body, a_history, a_itemKind, a_itemValue, a_openAt, a_closeAt, a_base, a_typedLength, a_typedText, a_draftKind, a_draftValue, a_draftOpenAt, a_draftCloseAt, a_enclosing, a_trialLength, b_sBody, b_typed, b_tLen, b_kind, b_val, b_stopOf, b_par, b_ipos, b_prim, b_stack, b_occ, b_rbuf, b_tbuf, b_svT, b_hist, rfl, rfl, R⟩ := I
  have J : i_Rel (k + 3) (nI cap, nI hc, f_length, f_caret, f_selStart, nI n, nI dep, f_merge, f_itemCount, nI bl, nI bp, f_activeStop, f_selected, f_draftCount, f_depth, f_readAt, a_text, a_body, a_history, a_itemKind, a_itemValue, a_openAt, a_closeAt, a_base, a_typedLength, a_typedText, a_draftKind, a_draftValue, a_draftOpenAt, a_draftCloseAt, a_enclosing, a_trialLength) (nI cap, nI hc, f_length, f_caret, f_selStart, nI n, nI sb, f_merge, y_session, y_selected, f_activeStop, y_nItems, y_finalIdx, y_fromStruct, nI bl, nI bp, y_rlen, y_tlen, 0, y_svF, y_svL, nI dep, a_text, a_body, b_sBody, b_typed, b_tLen, a_typedText, b_kind, b_val, b_stopOf, b_par, b_ipos, b_prim, b_stack, b_occ, a_base, b_rbuf, b_tbuf, b_svT, b_hist) := sn_mk R
  have c64 := R.1.2.1
  obtain ⟨R1, R2, ⟨b1, b2, l, q, el, eq, hl, hlc, hS⟩, R4⟩ := R
  subst el
  unfold wpX_setCaret
  rcases hS with ⟨ea, es⟩ | ⟨es, _, _, a, ea, a1, a9, _⟩
  · subst ea es
    refine sn_xins (fun _ => br_t rfl ?_) (fun z => absurd rfl z)
    by_cases a : v1 < 0
    · exact br_t a (br_t rfl (br_t a ⟨rfl, J⟩))
    · by_cases b : v1 ≤ nI l
      · obtain ⟨j, hj, rfl⟩ := nI_of a
        have z : j ≤ l := (nI_leI hj (by omega)).mp b
        exact br_f a (br_t b (br_t rfl (br_f a (br_t b ⟨rfl, sn_mk ⟨R1, R2, ⟨b1, b2, l, j, rfl, rfl, z, hlc, Or.inl ⟨rfl, rfl⟩⟩, R4⟩⟩))))
      · exact br_f a (br_f b (br_t rfl (br_f a (br_f b ⟨rfl, J⟩))))
  · subst ea es
    exact sn_xins (fun z => absurd z (sn_nm1 (by omega))) (fun _ => br_f (by decide) (br_f (by decide) ⟨rfl, J⟩))
theorem i_vc_escape {k : Nat} {u : SX} {v : SY} (I : i_Rel k u v) (hk : k + 3 ≤ 1538) : wpX_escape (fun r u' => wpY_escape (fun r' v' => r' = r ∧ i_Rel (k + 3) u' v') v) u := by
  obtain ⟨cap, hc, dep, n, sb, bl, bp, i, c, d, st, K, V, S, oa, ca, sg, dp, pa, f_length, f_caret, f_selStart, f_merge, f_itemCount, f_activeStop, f_selected, f_draftCount, f_depth, f_readAt, y_session, y_selected, y_nItems, y_finalIdx, y_fromStruct, y_rlen, y_tlen, y_svF, y_svL, a_text, a_body, a_history, a_itemKind, a_itemValue, a_openAt, a_closeAt, a_base, a_typedLength, a_typedText, a_draftKind, a_draftValue, a_draftOpenAt, a_draftCloseAt, a_enclosing, a_trialLength, b_sBody, b_typed, b_tLen, b_kind, b_val, b_stopOf, b_par, b_ipos, b_prim, b_stack, b_occ, b_rbuf, b_tbuf, b_svT, b_hist, rfl, rfl, R⟩ := I
  have J : i_Rel (k + 3) (nI cap, nI hc, f_length, f_caret, f_selStart, nI n, nI dep, f_merge, f_itemCount, nI bl, nI bp, f_activeStop, f_selected, f_draftCount, f_depth, f_readAt, a_text, a_body, a_history, a_itemKind, a_itemValue, a_openAt, a_closeAt, a_base, a_typedLength, a_typedText, a_draftKind, a_draftValue, a_draftOpenAt, a_draftCloseAt, a_enclosing, a_trialLength) (nI cap, nI hc, f_length, f_caret, f_selStart, nI n, nI sb, f_merge, y_session, y_selected, f_activeStop, y_nItems, y_finalIdx, y_fromStruct, nI bl, nI bp, y_rlen, y_tlen, 0, y_svF, y_svL, nI dep, a_text, a_body, b_sBody, b_typed, b_tLen, a_typedText, b_kind, b_val, b_stopOf, b_par, b_ipos, b_prim, b_stack, b_occ, a_base, b_rbuf, b_tbuf, b_svT, b_hist) := sn_mk R
  obtain ⟨R1, R2, ⟨b1, b2, l, q, el, eq, hl, hlc, hS⟩, R4⟩ := R
  unfold wpX_escape
  rcases hS with ⟨ea, es⟩ | ⟨es, _, _, a, ea, a1, a9, _⟩
  · subst ea es
    exact sn_xins (fun _ => br_t rfl (br_t rfl ⟨rfl, J⟩)) (fun z => absurd rfl z)
  · subst ea es
    refine sn_xins (fun z => absurd z (sn_nm1 (by omega))) (fun _ => br_f (by decide) (br_f (by decide) ⟨rfl, ?_⟩))
    exact sn_mk ⟨R1, R2, ⟨b1, Or.inl rfl, l, q, el, eq, hl, hlc, Or.inl ⟨rfl, rfl⟩⟩, R4⟩
end SOB
