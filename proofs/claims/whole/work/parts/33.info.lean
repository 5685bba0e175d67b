section SOC
theorem i_vc_info {k : Nat} {u : SX} {v : SY} (I : i_Rel k u v) (hk : k + 3 ≤ 1538) (v1 : Int32) : wpX_info (fun r => wpY_info (fun r' => r' = r ∧ i_Rel (k + 3) u v) v v1) u v1 := by
  obtain ⟨cap, hc, dep, n, sb, bl, bp, i, c, d, st, K, V, S, oa, ca, sg, dp, pa, f_length, f_caret, f_selStart, f_merge, f_itemCount, f_activeStop, f_selected, f_draftCount, f_depth, f_readAt, y_session, y_selected, y_nItems, y_finalIdx, y_fromStruct, y_rlen, y_tlen, y_svF, y_svL, a_text, a_body, a_history, a_itemKind, a_itemValue, a_openAt, a_closeAt, a_base, a_typedLength, a_typedText, a_draftKind, a_draftValue, a_draftOpenAt, a_draftCloseAt, a_enclosing, a_trialLength, b_sBody, b_typed, b_tLen, b_kind, b_val, b_stopOf, b_par, b_ipos, b_prim, b_stack, b_occ, b_rbuf, b_tbuf, b_svT, b_hist, rfl, rfl, R⟩ := I
  have J : i_Rel (k + 3) (nI cap, nI hc, f_length, f_caret, f_selStart, nI n, nI dep, f_merge, f_itemCount, nI bl, nI bp, f_activeStop, f_selected, f_draftCount, f_depth, f_readAt, a_text, a_body, a_history, a_itemKind, a_itemValue, a_openAt, a_closeAt, a_base, a_typedLength, a_typedText, a_draftKind, a_draftValue, a_draftOpenAt, a_draftCloseAt, a_enclosing, a_trialLength) (nI cap, nI hc, f_length, f_caret, f_selStart, nI n, nI sb, f_merge, y_session, y_selected, f_activeStop, y_nItems, y_finalIdx, y_fromStruct, nI bl, nI bp, y_rlen, y_tlen, 0, y_svF, y_svL, nI dep, a_text, a_body, b_sBody, b_typed, b_tLen, a_typedText, b_kind, b_val, b_stopOf, b_par, b_ipos, b_prim, b_stack, b_occ, a_base, b_rbuf, b_tbuf, b_svT, b_hist) := sn_mk R
  obtain ⟨R1, R2, ⟨b1, b2, l, q, el, eq, hl, hlc, hS⟩, R4⟩ := R
  by_cases a : v1 < 0
  · have ne : ∀ y : Int32, 0 ≤ y → ¬ v1 = y := fun y hy e => absurd (Int32.lt_of_le_of_lt hy (by rw [← e]; exact a)) Int32.lt_irrefl
    exact br_t a (br_f (ne 0 (by decide)) (br_f (ne 1 (by decide)) (br_f (ne 2 (by decide)) (br_f (ne 3 (by decide)) (br_f (ne 4 (by decide)) (br_f (ne 5 (by decide)) (br_f (ne 6 (by decide)) (br_f (ne 7 (by decide)) (br_f (ne 8 (by decide)) (br_f (ne 9 (by decide)) ⟨rfl, J⟩))))))))))
  · refine br_f a ?_
    by_cases b : 9 < v1
    · have ne : ∀ y : Int32, y ≤ 9 → ¬ v1 = y := fun y hy e => absurd (Int32.lt_of_le_of_lt hy (by rw [← e]; exact b)) Int32.lt_irrefl
      exact br_t b (br_f (ne 0 (by decide)) (br_f (ne 1 (by decide)) (br_f (ne 2 (by decide)) (br_f (ne 3 (by decide)) (br_f (ne 4 (by decide)) (br_f (ne 5 (by decide)) (br_f (ne 6 (by decide)) (br_f (ne 7 (by decide)) (br_f (ne 8 (by decide)) (br_f (ne 9 (by decide)) ⟨rfl, J⟩))))))))))
    · refine br_f b ?_
      refine br_c (fun e => ?_) (fun e0 => br_c (fun e => ?_) (fun e1 => br_c (fun e => ?_) (fun e2 => br_c (fun e => ?_) (fun e3 => br_c (fun e => ?_) (fun e4 => br_c (fun e => ?_) (fun e5 => br_c (fun e => ?_) (fun e6 => br_c (fun e => ?_) (fun e7 => br_c (fun e => ?_) (fun e8 => br_c (fun e => ?_) (fun e9 => True.intro))))))))))
      · exact br_t e ⟨rfl, J⟩
      · exact br_f e0 (br_t e ⟨rfl, J⟩)
      · exact br_f e0 (br_f e1 (br_t e ⟨rfl, J⟩))
      · refine br_f e0 (br_f e1 (br_f e2 (br_t e ?_)))
        rcases hS with ⟨ea, es⟩ | ⟨es, _⟩
        · exact br_t es ⟨ea.symm, J⟩
        · exact br_f (by rw [es]; decide) ⟨rfl, J⟩
      · rcases hS with ⟨ea, es⟩ | ⟨es, e2', _, a', ea, a1, a9, _⟩
        · exact sn_xins (fun _ => br_t rfl (br_f e0 (br_f e1 (br_f e2 (br_f e3 (br_t e (br_t es ⟨rfl, J⟩))))))) (fun z => absurd ea z)
        · refine sn_xins (fun z => absurd z (by rw [ea]; exact sn_nm1 (by omega))) (fun _ => br_f (by decide) ?_)
          subst e2'
          by_cases s0 : y_selected = 0
          · exact br_t s0 (br_f e0 (br_f e1 (br_f e2 (br_f e3 (br_t e (br_f (by rw [es]; decide) (br_t s0 ⟨rfl, J⟩)))))))
          · exact br_f s0 (br_f e0 (br_f e1 (br_f e2 (br_f e3 (br_t e (br_f (by rw [es]; decide) (br_f s0 ⟨rfl, J⟩)))))))
      · exact br_f e0 (br_f e1 (br_f e2 (br_f e3 (br_f e4 (br_t e ⟨rfl, J⟩)))))
      · exact br_f e0 (br_f e1 (br_f e2 (br_f e3 (br_f e4 (br_f e5 (br_t e ⟨rfl, J⟩))))))
      · by_cases m0 : f_merge = 0
        · exact br_t m0 (br_f e0 (br_f e1 (br_f e2 (br_f e3 (br_f e4 (br_f e5 (br_f e6 (br_t e (br_t m0 ⟨rfl, J⟩)))))))))
        · exact br_f m0 (br_f e0 (br_f e1 (br_f e2 (br_f e3 (br_f e4 (br_f e5 (br_f e6 (br_t e (br_f m0 ⟨rfl, J⟩)))))))))
      · exact br_f e0 (br_f e1 (br_f e2 (br_f e3 (br_f e4 (br_f e5 (br_f e6 (br_f e7 (br_t e ⟨rfl, J⟩))))))))
      · exact br_f e0 (br_f e1 (br_f e2 (br_f e3 (br_f e4 (br_f e5 (br_f e6 (br_f e7 (br_f e8 (br_t e ⟨rfl, J⟩)))))))))
end SOC
