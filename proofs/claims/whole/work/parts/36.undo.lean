section SOH
variable {f_cap f_hcap f_len f_caret f_sel f_bodyLen f_sBodyLen f_merge f_session f_selected f_active f_nItems f_finalIdx f_fromStruct f_baseLen f_baseP f_rlen f_tlen f_clearAll f_svF f_svL f_hCount : Int32} {a_buf a_body a_sBody a_typed a_tLen a_tText a_kind a_val a_stopOf a_par a_ipos a_prim a_stack a_occ a_base a_rbuf a_tbuf a_svT a_hist : Nat → Int32}
theorem sn_yspR {post : Int32 → SY → Prop} {x0 x1 : Int32} (r0 : Int32) (hr : r0 = 0 ∨ r0 = 3) (hst : ∀ post' : Int32 → Prop, post' r0 → wpY_stopState post' (f_cap, f_hcap, f_len, f_caret, f_sel, f_bodyLen, f_sBodyLen, f_merge, f_session, f_selected, f_active, f_nItems, f_finalIdx, f_fromStruct, f_baseLen, f_baseP, f_rlen, f_tlen, f_clearAll, f_svF, f_svL, f_hCount, a_buf, a_body, a_sBody, a_typed, a_tLen, a_tText, a_kind, a_val, a_stopOf, a_par, a_ipos, a_prim, a_stack, a_occ, a_base, a_rbuf, a_tbuf, a_svT, a_hist) x0) (h : post (-1) (f_cap, f_hcap, f_len, f_caret, f_sel, f_bodyLen, f_sBodyLen, f_merge, f_session, f_selected, f_active, f_nItems, f_finalIdx, f_fromStruct, f_baseLen, f_baseP, f_rlen, f_tlen, f_clearAll, f_svF, f_svL, f_hCount, a_buf, a_body, a_sBody, a_typed, a_tLen, a_tText, a_kind, a_val, a_stopOf, a_par, a_ipos, a_prim, a_stack, a_occ, a_base, a_rbuf, a_tbuf, a_svT, a_hist)) : wpY_stopPos post (f_cap, f_hcap, f_len, f_caret, f_sel, f_bodyLen, f_sBodyLen, f_merge, f_session, f_selected, f_active, f_nItems, f_finalIdx, f_fromStruct, f_baseLen, f_baseP, f_rlen, f_tlen, f_clearAll, f_svF, f_svL, f_hCount, a_buf, a_body, a_sBody, a_typed, a_tLen, a_tText, a_kind, a_val, a_stopOf, a_par, a_ipos, a_prim, a_stack, a_occ, a_base, a_rbuf, a_tbuf, a_svT, a_hist) x0 x1 := by
  by_cases a : x1 < 0
  · exact br_t a h
  · by_cases b : x1 ≤ 1
    · refine br_f a (br_t b (hst _ ?_))
      rcases hr with e | e
      · exact br_t e h
      · exact br_f (by rw [e]; decide) (br_t e h)
    · exact br_f a (br_f b h)
theorem sn_yspB {post : Int32 → SY → Prop} {x0 x1 : Int32} (hw : x1 < 0 ∨ (¬ x1 < 0 ∧ ¬ x1 ≤ 1)) (h : post (-1) (f_cap, f_hcap, f_len, f_caret, f_sel, f_bodyLen, f_sBodyLen, f_merge, f_session, f_selected, f_active, f_nItems, f_finalIdx, f_fromStruct, f_baseLen, f_baseP, f_rlen, f_tlen, f_clearAll, f_svF, f_svL, f_hCount, a_buf, a_body, a_sBody, a_typed, a_tLen, a_tText, a_kind, a_val, a_stopOf, a_par, a_ipos, a_prim, a_stack, a_occ, a_base, a_rbuf, a_tbuf, a_svT, a_hist)) : wpY_stopPos post (f_cap, f_hcap, f_len, f_caret, f_sel, f_bodyLen, f_sBodyLen, f_merge, f_session, f_selected, f_active, f_nItems, f_finalIdx, f_fromStruct, f_baseLen, f_baseP, f_rlen, f_tlen, f_clearAll, f_svF, f_svL, f_hCount, a_buf, a_body, a_sBody, a_typed, a_tLen, a_tText, a_kind, a_val, a_stopOf, a_par, a_ipos, a_prim, a_stack, a_occ, a_base, a_rbuf, a_tbuf, a_svT, a_hist) x0 x1 := by
  rcases hw with a | ⟨a, b⟩
  · exact br_t a h
  · exact br_f a (br_f b h)
end SOH
section SOI
variable {f_capacity f_historyCap f_length f_caret f_selStart f_bodyLength f_undoDepth f_merge f_itemCount f_baseLength f_basePos f_activeStop f_selected f_draftCount f_depth f_readAt : Int32} {a_text a_body a_history a_itemKind a_itemValue a_openAt a_closeAt a_base a_typedLength a_typedText a_draftKind a_draftValue a_draftOpenAt a_draftCloseAt a_enclosing a_trialLength : Nat → Int32}
theorem sn_xspR {post : Int32 → Prop} {x0 x1 : Int32} (r0 : Int32) (hr : r0 = 0 ∨ r0 = 3) (hst : ∀ post' : Int32 → Prop, post' r0 → wpX_stopState post' (f_capacity, f_historyCap, f_length, f_caret, f_selStart, f_bodyLength, f_undoDepth, f_merge, f_itemCount, f_baseLength, f_basePos, f_activeStop, f_selected, f_draftCount, f_depth, f_readAt, a_text, a_body, a_history, a_itemKind, a_itemValue, a_openAt, a_closeAt, a_base, a_typedLength, a_typedText, a_draftKind, a_draftValue, a_draftOpenAt, a_draftCloseAt, a_enclosing, a_trialLength) x0) (h : post (-1)) : wpX_stopPos post (f_capacity, f_historyCap, f_length, f_caret, f_selStart, f_bodyLength, f_undoDepth, f_merge, f_itemCount, f_baseLength, f_basePos, f_activeStop, f_selected, f_draftCount, f_depth, f_readAt, a_text, a_body, a_history, a_itemKind, a_itemValue, a_openAt, a_closeAt, a_base, a_typedLength, a_typedText, a_draftKind, a_draftValue, a_draftOpenAt, a_draftCloseAt, a_enclosing, a_trialLength) x0 x1 := by
  unfold wpX_stopPos
  refine hst _ ?_
  rcases hr with e | e
  · exact br_t e h
  · exact br_f (by rw [e]; decide) (br_t e h)
theorem sn_xspB {post : Int32 → Prop} {x0 x1 : Int32} (hw : x1 < 0 ∨ (¬ x1 < 0 ∧ ¬ x1 ≤ 1)) (hst : ∀ post' : Int32 → Prop, (∀ r, post' r) → wpX_stopState post' (f_capacity, f_historyCap, f_length, f_caret, f_selStart, f_bodyLength, f_undoDepth, f_merge, f_itemCount, f_baseLength, f_basePos, f_activeStop, f_selected, f_draftCount, f_depth, f_readAt, a_text, a_body, a_history, a_itemKind, a_itemValue, a_openAt, a_closeAt, a_base, a_typedLength, a_typedText, a_draftKind, a_draftValue, a_draftOpenAt, a_draftCloseAt, a_enclosing, a_trialLength) x0) (h : post (-1)) : wpX_stopPos post (f_capacity, f_historyCap, f_length, f_caret, f_selStart, f_bodyLength, f_undoDepth, f_merge, f_itemCount, f_baseLength, f_basePos, f_activeStop, f_selected, f_draftCount, f_depth, f_readAt, a_text, a_body, a_history, a_itemKind, a_itemValue, a_openAt, a_closeAt, a_base, a_typedLength, a_typedText, a_draftKind, a_draftValue, a_draftOpenAt, a_draftCloseAt, a_enclosing, a_trialLength) x0 x1 := by
  unfold wpX_stopPos
  refine hst _ (fun r => ?_)
  refine br_c (fun _ => h) (fun _ => br_c (fun _ => h) (fun _ => ?_))
  rcases hw with a | ⟨a, b⟩
  · exact br_t a h
  · exact br_f a (br_f b h)
end SOI
section SOJ
theorem i_vc_stopPos {k : Nat} {u : SX} {v : SY} (I : i_Rel k u v) (hk : k + 3 ≤ 1538) (v1 : Int32) (v2 : Int32) : wpX_stopPos (fun r => wpY_stopPos (fun r' v' => r' = r ∧ i_Rel (k + 3) u v') v v1 v2) u v1 v2 := by
  refine sn_elim (motive := fun u v => wpX_stopPos (fun r => wpY_stopPos (fun r' v' => r' = r ∧ i_Rel (k + 3) u v') v v1 v2) u v1 v2) ?_ I
  intro cap hc dep n sb bl bp i c d st K V S oa ca sg dp pa f_length f_caret f_selStart f_merge f_itemCount f_activeStop f_selected f_draftCount f_depth f_readAt y_session y_selected y_nItems y_finalIdx y_fromStruct y_rlen y_tlen y_svF y_svL a_text a_body a_history a_itemKind a_itemValue a_openAt a_closeAt a_base a_typedLength a_typedText a_draftKind a_draftValue a_draftOpenAt a_draftCloseAt a_enclosing a_trialLength b_sBody b_typed b_tLen b_kind b_val b_stopOf b_par b_ipos b_prim b_stack b_occ b_rbuf b_tbuf b_svT b_hist R
  have J : i_Rel (k + 3) (nI cap, nI hc, f_length, f_caret, f_selStart, nI n, nI dep, f_merge, f_itemCount, nI bl, nI bp, f_activeStop, f_selected, f_draftCount, f_depth, f_readAt, a_text, a_body, a_history, a_itemKind, a_itemValue, a_openAt, a_closeAt, a_base, a_typedLength, a_typedText, a_draftKind, a_draftValue, a_draftOpenAt, a_draftCloseAt, a_enclosing, a_trialLength) (nI cap, nI hc, f_length, f_caret, f_selStart, nI n, nI sb, f_merge, y_session, y_selected, f_activeStop, y_nItems, y_finalIdx, y_fromStruct, nI bl, nI bp, y_rlen, y_tlen, 0, y_svF, y_svL, nI dep, a_text, a_body, b_sBody, b_typed, b_tLen, a_typedText, b_kind, b_val, b_stopOf, b_par, b_ipos, b_prim, b_stack, b_occ, a_base, b_rbuf, b_tbuf, b_svT, b_hist) := sn_mk R
  have JJ : ∀ rl rb tb tl ip, i_Rel (k + 3) (nI cap, nI hc, f_length, f_caret, f_selStart, nI n, nI dep, f_merge, f_itemCount, nI bl, nI bp, f_activeStop, f_selected, f_draftCount, f_depth, f_readAt, a_text, a_body, a_history, a_itemKind, a_itemValue, a_openAt, a_closeAt, a_base, a_typedLength, a_typedText, a_draftKind, a_draftValue, a_draftOpenAt, a_draftCloseAt, a_enclosing, a_trialLength) (nI cap, nI hc, f_length, f_caret, f_selStart, nI n, nI sb, f_merge, y_session, y_selected, f_activeStop, y_nItems, y_finalIdx, y_fromStruct, nI bl, nI bp, rl, tl, 0, y_svF, y_svL, nI dep, a_text, a_body, b_sBody, b_typed, b_tLen, a_typedText, b_kind, b_val, b_stopOf, b_par, ip, b_prim, b_stack, b_occ, a_base, rb, tb, b_svT, b_hist) := fun rl rb tb tl ip => sn_mk R
  obtain ⟨R1, R2, ⟨b1, b2, l, q, el, eq, hl, hlc, hS⟩, R4⟩ := R
  rcases hS with ⟨ea, es⟩ | ⟨es, e2, G, a, ea, a1, a9, oc, nh, hs, len⟩
  · subst ea es
    refine sn_xspR 0 (Or.inl rfl) (fun post' hp => ?_) (sn_yspR 0 (Or.inl rfl) (fun post' hp => br_t rfl hp) ⟨rfl, J⟩)
    unfold wpX_stopState
    exact sn_xins (fun _ => br_t rfl hp) (fun z => absurd rfl z)
  · subst ea es
    obtain ⟨P, c65, h00⟩ := sn_GP R1.2.2.2.2.2.2.1 G
    have XS := G.2.2.1
    have YS := G.2.2.2
    have YT := sn_TLy R2
    have LL := sn_YTL YT
    have na : nI a ≠ -1 := sn_nm1 (by omega)
    by_cases z : v1 < 0
    · refine sn_xspR 0 (Or.inl rfl) (fun post' hp => ?_) (sn_yspR 0 (Or.inl rfl) (fun post' hp => br_f (by decide) (br_t z hp)) ⟨rfl, J⟩)
      unfold wpX_stopState
      exact sn_xins (fun w => absurd w na) (fun _ => br_f (by decide) (br_t z hp))
    · obtain ⟨s, hs1, rfl⟩ := nI_of z
      by_cases h9 : s ≤ 9
      · by_cases w1 : v2 < 0
        · exact sn_xspB (Or.inl w1) (fun post' hp => sn_xstS P XS na s h9 (fun _ => hp _) (fun _ _ => hp _) (fun _ _ _ => hp _) (fun _ _ _ => hp _) (fun _ _ _ => hp _)) (sn_yspB (Or.inl w1) ⟨rfl, J⟩)
        · by_cases w2 : v2 ≤ 1
          · by_cases s0 : s = 0
            · have k3 := sn_clo P 0
              have h0 := P.1
              have o0 : a_openAt 0 = nI (oa 0) := by rw [XS.2.1 0 (by omega), sn_o1 (by omega)]
              have c0 : a_closeAt 0 = nI (oa 0) := by
                rw [XS.2.2 0 (by omega), sn_o1 (by omega)]
                congr 1
                omega
              subst s0
              have Yp : wpY_stopPos (fun r' v' => r' = nI (bp + (sn_rr K V S oa ca a_typedLength a_typedText (oa 0)).length) ∧ i_Rel (k + 3) (nI cap, nI hc, f_length, f_caret, f_selStart, nI n, nI dep, f_merge, f_itemCount, nI bl, nI bp, nI a, f_selected, f_draftCount, f_depth, f_readAt, a_text, a_body, a_history, a_itemKind, a_itemValue, a_openAt, a_closeAt, a_base, a_typedLength, a_typedText, a_draftKind, a_draftValue, a_draftOpenAt, a_draftCloseAt, a_enclosing, a_trialLength) v') (nI cap, nI hc, f_length, f_caret, f_selStart, nI n, nI sb, f_merge, 1, y_selected, nI a, y_nItems, y_finalIdx, y_fromStruct, nI bl, nI bp, y_rlen, y_tlen, 0, y_svF, y_svL, nI dep, a_text, a_body, b_sBody, b_typed, b_tLen, a_typedText, b_kind, b_val, b_stopOf, b_par, b_ipos, b_prim, b_stack, b_occ, a_base, b_rbuf, b_tbuf, b_svT, b_hist) (nI 0) v2 := by
                refine br_f w1 (br_t w2 (sn_ystS P c65 YS R2 0 (by omega) (fun _ => br_f (by decide) (br_f (by decide) (br_t rfl ?_))) (fun w => absurd w (by omega)) (fun w => absurd w (by omega)) (fun w => absurd w (by omega)) (fun w => absurd w (by omega))))
                exact sn_yfp P c65 YS YT bp h00 (fun rl rb tb tl ip => ⟨rfl, JJ rl rb tb tl ip⟩)
              unfold wpX_stopPos
              refine sn_xstS P XS na 0 (by omega) (fun _ => br_f (by decide) (br_f (by decide) (br_f w1 (br_t w2 ?_)))) (fun w => absurd w (by omega)) (fun w => absurd w (by omega)) (fun w => absurd w (by omega)) (fun w => absurd w (by omega))
              have v10 : vp_in (nI 0) 10 := vp_in_nI (by omega) (by omega)
              by_cases w0 : v2 = 0
              · refine br_t w0 ⟨v10, ?_⟩
                exact sn_xpos P c65 XS LL a_typedText bp (oa 0) o0 (by omega) Yp
              · refine br_f w0 ⟨v10, ?_⟩
                exact sn_xpos P c65 XS LL a_typedText bp (oa 0) c0 (by omega) Yp
            · have h0 := P.1
              have AL : sn_AL oa ca a_typedLength s → ∀ r0 : Int32, ¬ r0 = 0 → ¬ r0 = 3 → (∀ post' : Int32 → Prop, post' r0 → wpX_stopState post' (nI cap, nI hc, f_length, f_caret, f_selStart, nI n, nI dep, f_merge, f_itemCount, nI bl, nI bp, nI a, f_selected, f_draftCount, f_depth, f_readAt, a_text, a_body, a_history, a_itemKind, a_itemValue, a_openAt, a_closeAt, a_base, a_typedLength, a_typedText, a_draftKind, a_draftValue, a_draftOpenAt, a_draftCloseAt, a_enclosing, a_trialLength) (nI s)) → (∀ post' : Int32 → Prop, post' r0 → wpY_stopState post' (nI cap, nI hc, f_length, f_caret, f_selStart, nI n, nI sb, f_merge, 1, y_selected, nI a, y_nItems, y_finalIdx, y_fromStruct, nI bl, nI bp, y_rlen, y_tlen, 0, y_svF, y_svL, nI dep, a_text, a_body, b_sBody, b_typed, b_tLen, a_typedText, b_kind, b_val, b_stopOf, b_par, b_ipos, b_prim, b_stack, b_occ, a_base, b_rbuf, b_tbuf, b_svT, b_hist) (nI s)) → wpX_stopPos (fun r => wpY_stopPos (fun r' v' => r' = r ∧ i_Rel (k + 3) (nI cap, nI hc, f_length, f_caret, f_selStart, nI n, nI dep, f_merge, f_itemCount, nI bl, nI bp, nI a, f_selected, f_draftCount, f_depth, f_readAt, a_text, a_body, a_history, a_itemKind, a_itemValue, a_openAt, a_closeAt, a_base, a_typedLength, a_typedText, a_draftKind, a_draftValue, a_draftOpenAt, a_draftCloseAt, a_enclosing, a_trialLength) v') (nI cap, nI hc, f_length, f_caret, f_selStart, nI n, nI sb, f_merge, 1, y_selected, nI a, y_nItems, y_finalIdx, y_fromStruct, nI bl, nI bp, y_rlen, y_tlen, 0, y_svF, y_svL, nI dep, a_text, a_body, b_sBody, b_typed, b_tLen, a_typedText, b_kind, b_val, b_stopOf, b_par, b_ipos, b_prim, b_stack, b_occ, a_base, b_rbuf, b_tbuf, b_svT, b_hist) (nI s) v2) (nI cap, nI hc, f_length, f_caret, f_selStart, nI n, nI dep, f_merge, f_itemCount, nI bl, nI bp, nI a, f_selected, f_draftCount, f_depth, f_readAt, a_text, a_body, a_history, a_itemKind, a_itemValue, a_openAt, a_closeAt, a_base, a_typedLength, a_typedText, a_draftKind, a_draftValue, a_draftOpenAt, a_draftCloseAt, a_enclosing, a_trialLength) (nI s) v2 := by
                intro al r0 n0 n3 hX hY
                have ao := sn_alO P (by omega) al
                have bb := sn_clB P s
                have n1000 : oa s ≠ 1000 := al.1
                have ss : ¬ nI s = 0 := sn_ne s0 (by omega) (by omega)
                have cs : (nI s).toNatClampNeg = s := nI_clamp (by omega)
                have v10 : vp_in (nI s) 10 := vp_in_nI (by omega) (by omega)
                unfold wpX_stopPos
                refine hX _ (br_f n0 (br_f n3 (br_f w1 (br_t w2 ?_))))
                by_cases w0 : v2 = 0
                · refine br_t w0 ⟨v10, ?_⟩
                  rw [cs]
                  refine sn_xpos P c65 XS LL a_typedText bp (oa s) (by rw [XS.2.1 s h9, sn_o1 (by omega)]) (by omega) ?_
                  refine br_f w1 (br_t w2 (hY _ (br_f n0 (br_f n3 (br_f ss (br_t w0 ?_))))))
                  exact sn_yst P c65 YS YT bp s rfl (by omega) h9 ao.1 al.2 (fun rl rb tb tl ip => ⟨rfl, JJ rl rb tb tl ip⟩)
                · refine br_f w0 ⟨v10, ?_⟩
                  rw [cs]
                  refine sn_xpos P c65 XS LL a_typedText bp (ca s) (by rw [XS.2.2 s h9, sn_o1 (by omega)]) (by omega) ?_
                  refine br_f w1 (br_t w2 (hY _ (br_f n0 (br_f n3 (br_f ss (br_f w0 ?_))))))
                  exact sn_yen P c65 YS YT bp s rfl (by omega) h9 ao.1 al.2 (fun rl rb tb tl ip => ⟨rfl, JJ rl rb tb tl ip⟩)
              by_cases e : oa s = 1000
              · exact sn_xspR 0 (Or.inl rfl) (fun post' hp => sn_xstS P XS na s h9 (fun w => absurd w s0) (fun _ _ => hp) (fun _ w => absurd e w) (fun _ w => absurd e w.1) (fun _ w => absurd e w.1))
                  (sn_yspR 0 (Or.inl rfl) (fun post' hp => sn_ystS P c65 YS R2 s h9 (fun w => absurd w s0) (fun _ _ => hp) (fun _ w => absurd e w) (fun _ w => absurd e w.1) (fun _ w => absurd e w.1)) ⟨rfl, J⟩)
              · by_cases al : sn_AL oa ca a_typedLength s
                · by_cases f : a_typedLength s = -1
                  · exact AL al 1 (by decide) (by decide) (fun post' hp => sn_xstS P XS na s h9 (fun w => absurd w s0) (fun _ w => absurd w e) (fun _ _ w => absurd al w) (fun _ _ _ => hp) (fun _ _ w => absurd f w))
                      (fun post' hp => sn_ystS P c65 YS R2 s h9 (fun w => absurd w s0) (fun _ w => absurd w e) (fun _ _ w => absurd al w) (fun _ _ _ => hp) (fun _ _ w => absurd f w))
                  · exact AL al 2 (by decide) (by decide) (fun post' hp => sn_xstS P XS na s h9 (fun w => absurd w s0) (fun _ w => absurd w e) (fun _ _ w => absurd al w) (fun _ _ w => absurd w f) (fun _ _ _ => hp))
                      (fun post' hp => sn_ystS P c65 YS R2 s h9 (fun w => absurd w s0) (fun _ w => absurd w e) (fun _ _ w => absurd al w) (fun _ _ w => absurd w f) (fun _ _ _ => hp))
                · exact sn_xspR 3 (Or.inr rfl) (fun post' hp => sn_xstS P XS na s h9 (fun w => absurd w s0) (fun _ w => absurd w e) (fun _ _ _ => hp) (fun _ w => absurd w al) (fun _ w => absurd w al))
                    (sn_yspR 3 (Or.inr rfl) (fun post' hp => sn_ystS P c65 YS R2 s h9 (fun w => absurd w s0) (fun _ w => absurd w e) (fun _ _ _ => hp) (fun _ w => absurd w al) (fun _ w => absurd w al)) ⟨rfl, J⟩)
          · exact sn_xspB (Or.inr ⟨w1, w2⟩) (fun post' hp => sn_xstS P XS na s h9 (fun _ => hp _) (fun _ _ => hp _) (fun _ _ _ => hp _) (fun _ _ _ => hp _) (fun _ _ _ => hp _)) (sn_yspB (Or.inr ⟨w1, w2⟩) ⟨rfl, J⟩)
      · have n9 : ¬ nI s ≤ (9 : Int32) := fun w => h9 ((nI_leI (a := s) (b := 9) (by omega) (by omega)).mp w)
        refine sn_xspR 0 (Or.inl rfl) (fun post' hp => ?_) (sn_yspR 0 (Or.inl rfl) (fun post' hp => br_f (by decide) (br_f z (br_f n9 hp))) ⟨rfl, J⟩)
        unfold wpX_stopState
        exact sn_xins (fun w => absurd w na) (fun _ => br_f (by decide) (br_f z (br_f n9 hp)))
theorem i_vc_undo {k : Nat} {u : SX} {v : SY} (I : i_Rel k u v) (hk : k + 3 ≤ 1538) : wpX_undo (fun r u' => wpY_undo (fun r' v' => r' = r ∧ i_Rel (k + 3) u' v') v) u := by
  refine sn_elim (motive := fun u v => wpX_undo (fun r u' => wpY_undo (fun r' v' => r' = r ∧ i_Rel (k + 3) u' v') v) u) ?_ I
  intro cap hc dep n sb bl bp i c d st K V S oa ca sg dp pa f_length f_caret f_selStart f_merge f_itemCount f_activeStop f_selected f_draftCount f_depth f_readAt y_session y_selected y_nItems y_finalIdx y_fromStruct y_rlen y_tlen y_svF y_svL a_text a_body a_history a_itemKind a_itemValue a_openAt a_closeAt a_base a_typedLength a_typedText a_draftKind a_draftValue a_draftOpenAt a_draftCloseAt a_enclosing a_trialLength b_sBody b_typed b_tLen b_kind b_val b_stopOf b_par b_ipos b_prim b_stack b_occ b_rbuf b_tbuf b_svT b_hist R
  have J : i_Rel (k + 3) (nI cap, nI hc, f_length, f_caret, f_selStart, nI n, nI dep, f_merge, f_itemCount, nI bl, nI bp, f_activeStop, f_selected, f_draftCount, f_depth, f_readAt, a_text, a_body, a_history, a_itemKind, a_itemValue, a_openAt, a_closeAt, a_base, a_typedLength, a_typedText, a_draftKind, a_draftValue, a_draftOpenAt, a_draftCloseAt, a_enclosing, a_trialLength) (nI cap, nI hc, f_length, f_caret, f_selStart, nI n, nI sb, f_merge, y_session, y_selected, f_activeStop, y_nItems, y_finalIdx, y_fromStruct, nI bl, nI bp, y_rlen, y_tlen, 0, y_svF, y_svL, nI dep, a_text, a_body, b_sBody, b_typed, b_tLen, a_typedText, b_kind, b_val, b_stopOf, b_par, b_ipos, b_prim, b_stack, b_occ, a_base, b_rbuf, b_tbuf, b_svT, b_hist) := sn_mk R
  obtain ⟨R1, R2, R3, R4⟩ := R
  by_cases z : dep = 0
  · have e0 : nI dep = 0 := by rw [z]; rfl
    exact br_t e0 (br_t e0 ⟨rfl, J⟩)
  · obtain ⟨e, rfl⟩ : ∃ e, dep = e + 1 := ⟨dep - 1, by omega⟩
    have ne : ¬ nI (e + 1) = 0 := nI_ne0 (by omega) (by omega)
    have he : e < 16 := by omega
    have hP : sn_GG sb b_sBody i c d st K V S oa ca sg dp pa f_itemCount y_nItems y_finalIdx a_itemKind a_itemValue a_openAt a_closeAt b_kind b_val b_stopOf b_par b_prim → sn_PI c 0 st K V S oa ca sg dp pa := fun g => (sn_GP R1.2.2.2.2.2.2.1 g).1
    obtain ⟨e1, e2, e3, e4, e5, e6, e7, e8⟩ := R4 e (by omega)
    have c5 : ∀ j, j < 64 → b_hist (170 * e + j) = a_history (159 * e + 5 + j) := e5
    have c6 : ∀ j, j < 80 → b_hist (170 * e + 90 + j) = a_history (159 * e + 79 + j) := e6
    have c7 : ∀ s, s ≤ 9 → sn_TL (a_history (159 * e + 69 + s)) (b_hist (170 * e + 70 + s)) (b_hist (170 * e + 80 + s)) := e7
    have b67 : sn_b1 (b_hist (170 * e + 67)) := by
      obtain ⟨_, _, _, _, _, _, _, _, h5⟩ := e8
      rcases h5 with h5 | h5
      · exact Or.inl h5.2
      · exact Or.inr h5.1
    refine br_f ne (fun y ey => ?_)
    rw [nI_pred] at ey
    subst ey
    refine sn_xrst e he (by rw [sn_mu e 159 rfl, Nat.mul_comm]) e8.1 ?_
    refine br_f ne (fun y ey => ?_)
    rw [nI_pred] at ey
    subst ey
    refine sn_yrst e rfl he (fun t ht => ?_) b67 e8.2.1 (fun ty tl ht1 ht2 => ⟨rfl, ?_⟩)
    · rcases c7 t ht with ⟨_, b, _⟩ | ⟨_, _, _, b, _⟩
      · exact Or.inl b
      · exact Or.inr b
    · have et : sn_cp b_hist (170 * e) a_text 0 64 = sn_cp a_history (159 * e + 5) a_text 0 64 := by
        funext j
        unfold sn_cp
        by_cases w : 0 ≤ j ∧ j < 0 + 64
        · rw [if_pos w, if_pos w]; exact c5 _ (by omega)
        · rw [if_neg w, if_neg w]
      have eT : sn_cp b_hist (170 * e + 90) a_typedText 0 80 = sn_cp a_history (159 * e + 79) a_typedText 0 80 := by
        funext j
        unfold sn_cp
        by_cases w : 0 ≤ j ∧ j < 0 + 80
        · rw [if_pos w, if_pos w]; exact c6 _ (by omega)
        · rw [if_neg w, if_neg w]
      have eL : ∀ s, s ≤ 9 → sn_cp a_history (159 * e + 69) a_typedLength 0 10 s = a_history (159 * e + 69 + s) := by
        intro s hs
        have w := sn_cpI (a := a_history) (b := a_typedLength) (p := 159 * e + 69) (q := 0) (n := 10) (j := s) (by omega)
        rw [Nat.zero_add] at w
        exact w
      rw [et, eT, e1, e2, e3, e4]
      refine sn_mk ⟨⟨R1.1, R1.2.1, R1.2.2.1, R1.2.2.2.1, by omega, R1.2.2.2.2.2⟩, fun s hs => ?_, sn_SQc hP eL e8, fun h hh => R4 h (by omega)⟩
      rw [eL s hs, ht1 s hs, ht2 s hs]
      exact c7 s hs
end SOJ
