section SOG
/-! undo, stopState, stopPos, next, prev -/
theorem sn_posB {c : Nat} {st K : Nat → Nat} {V : Nat → Int32} {S oa ca sg dp pa : Nat → Nat} {L T : Nat → Int32} {bl bp l x : Nat} (P : sn_PI c 0 st K V S oa ca sg dp pa) (hb : bp ≤ bl) (len : l = bl + (sn_rr K V S oa ca L (fun _ => 0) c).length) (hx : x ≤ c) : bp + (sn_rr K V S oa ca L T x).length ≤ l := by
  have a := sn_rrM' (K := K) (V := V) (S := S) (oa := oa) (ca := ca) (L := L) (T := T) hx
  have b := sn_rrLC (V := V) (L := L) (L' := L) (T := fun _ => 0) (T' := T) (x := c) P (fun _ _ => rfl) (Nat.le_refl c)
  omega
theorem sn_alO {c : Nat} {st K : Nat → Nat} {V : Nat → Int32} {S oa ca sg dp pa : Nat → Nat} {L : Nat → Int32} {s : Nat} (P : sn_PI c 0 st K V S oa ca sg dp pa) (h1 : 1 ≤ s) (al : sn_AL oa ca L s) : oa s < c ∧ ca s ≤ c := by
  have := al.1
  have h0 := P.1
  rcases sn_clo P s with a | a | a <;> omega

theorem i_vc_next {k : Nat} {u : SX} {v : SY} (I : i_Rel k u v) (hk : k + 3 ≤ 1538) : wpX_next (fun r u' => wpY_next (fun r' v' => r' = r ∧ i_Rel (k + 3) u' v') v) u := by
  refine sn_elim (motive := fun u v => wpX_next (fun r u' => wpY_next (fun r' v' => r' = r ∧ i_Rel (k + 3) u' v') v) u) ?_ I
  intro cap hc dep n sb bl bp i c d st K V S oa ca sg dp pa f_length f_caret f_selStart f_merge f_itemCount f_activeStop f_selected f_draftCount f_depth f_readAt y_session y_selected y_nItems y_finalIdx y_fromStruct y_rlen y_tlen y_svF y_svL a_text a_body a_history a_itemKind a_itemValue a_openAt a_closeAt a_base a_typedLength a_typedText a_draftKind a_draftValue a_draftOpenAt a_draftCloseAt a_enclosing a_trialLength b_sBody b_typed b_tLen b_kind b_val b_stopOf b_par b_ipos b_prim b_stack b_occ b_rbuf b_tbuf b_svT b_hist R
  have J : i_Rel (k + 3) (nI cap, nI hc, f_length, f_caret, f_selStart, nI n, nI dep, f_merge, f_itemCount, nI bl, nI bp, f_activeStop, f_selected, f_draftCount, f_depth, f_readAt, a_text, a_body, a_history, a_itemKind, a_itemValue, a_openAt, a_closeAt, a_base, a_typedLength, a_typedText, a_draftKind, a_draftValue, a_draftOpenAt, a_draftCloseAt, a_enclosing, a_trialLength) (nI cap, nI hc, f_length, f_caret, f_selStart, nI n, nI sb, f_merge, y_session, y_selected, f_activeStop, y_nItems, y_finalIdx, y_fromStruct, nI bl, nI bp, y_rlen, y_tlen, 0, y_svF, y_svL, nI dep, a_text, a_body, b_sBody, b_typed, b_tLen, a_typedText, b_kind, b_val, b_stopOf, b_par, b_ipos, b_prim, b_stack, b_occ, a_base, b_rbuf, b_tbuf, b_svT, b_hist) := sn_mk R
  obtain ⟨R1, R2, ⟨b1, b2, l, q, el, eq, hl, hlc, hS⟩, R4⟩ := R
  unfold wpX_next
  rcases hS with ⟨ea, es⟩ | ⟨es, e2, G, a, ea, a1, a9, oc, nh, hs, len⟩
  · subst ea es
    exact sn_xins (fun _ => br_t rfl (br_t rfl ⟨rfl, J⟩)) (fun z => absurd rfl z)
  · subst ea es
    obtain ⟨P, c65, h00⟩ := sn_GP R1.2.2.2.2.2.2.1 G
    have XS := G.2.2.1
    have YS := G.2.2.2
    have YT := sn_TLy R2
    have LL := sn_YTL YT
    refine sn_xins (fun z => absurd z (sn_nm1 (by omega))) (fun _ => br_f (by decide) ?_)
    refine sn_xgo P c65 h00 XS LL a_typedText bp a rfl a9 (fun b hb1 hb9 al ht => ?_) (fun ht => ?_)
    · have ao := sn_alO P (by omega) al
      refine br_f (by decide) (fun y ey => ?_)
      rw [ey, nI_1]
      refine ⟨b - a, sn_ynA P c65 YS YT bp b hb9 al (fun rl rb tb tl ip => ⟨rfl, ?_⟩) (b - (a + 1)) (a + 1) (b - a) (by omega) (by omega) (by omega) (fun t h1 h2 => ht t (by omega) h2)⟩
      exact sn_mk ⟨R1, R2, ⟨Or.inr rfl, Or.inr rfl, l, _, el, rfl, sn_posB P R1.2.2.2.2.2.2.2.1 len ao.2, hlc, Or.inr ⟨rfl, rfl, G, b, rfl, by omega, hb9, ao.1, al.2, fun z => absurd z (by decide), len⟩⟩, R4⟩
    · refine br_f (by decide) (fun y ey => ?_)
      rw [ey, nI_1]
      refine ⟨10 - a, sn_ynN P c65 h00 YS YT bp (fun rl rb tb tl ip => ⟨rfl, ?_⟩) (10 - (a + 1)) (a + 1) (10 - a) (by omega) (by omega) (by omega) (fun t h1 h2 => ht t (by omega) h2)⟩
      exact sn_mk ⟨R1, R2, ⟨b1, Or.inl rfl, l, _, el, rfl, sn_posB P R1.2.2.2.2.2.2.2.1 len (by omega), hlc, Or.inl ⟨rfl, rfl⟩⟩, R4⟩
theorem i_vc_prev {k : Nat} {u : SX} {v : SY} (I : i_Rel k u v) (hk : k + 3 ≤ 1538) : wpX_prev (fun r u' => wpY_prev (fun r' v' => r' = r ∧ i_Rel (k + 3) u' v') v) u := by
  refine sn_elim (motive := fun u v => wpX_prev (fun r u' => wpY_prev (fun r' v' => r' = r ∧ i_Rel (k + 3) u' v') v) u) ?_ I
  intro cap hc dep n sb bl bp i c d st K V S oa ca sg dp pa f_length f_caret f_selStart f_merge f_itemCount f_activeStop f_selected f_draftCount f_depth f_readAt y_session y_selected y_nItems y_finalIdx y_fromStruct y_rlen y_tlen y_svF y_svL a_text a_body a_history a_itemKind a_itemValue a_openAt a_closeAt a_base a_typedLength a_typedText a_draftKind a_draftValue a_draftOpenAt a_draftCloseAt a_enclosing a_trialLength b_sBody b_typed b_tLen b_kind b_val b_stopOf b_par b_ipos b_prim b_stack b_occ b_rbuf b_tbuf b_svT b_hist R
  have J : i_Rel (k + 3) (nI cap, nI hc, f_length, f_caret, f_selStart, nI n, nI dep, f_merge, f_itemCount, nI bl, nI bp, f_activeStop, f_selected, f_draftCount, f_depth, f_readAt, a_text, a_body, a_history, a_itemKind, a_itemValue, a_openAt, a_closeAt, a_base, a_typedLength, a_typedText, a_draftKind, a_draftValue, a_draftOpenAt, a_draftCloseAt, a_enclosing, a_trialLength) (nI cap, nI hc, f_length, f_caret, f_selStart, nI n, nI sb, f_merge, y_session, y_selected, f_activeStop, y_nItems, y_finalIdx, y_fromStruct, nI bl, nI bp, y_rlen, y_tlen, 0, y_svF, y_svL, nI dep, a_text, a_body, b_sBody, b_typed, b_tLen, a_typedText, b_kind, b_val, b_stopOf, b_par, b_ipos, b_prim, b_stack, b_occ, a_base, b_rbuf, b_tbuf, b_svT, b_hist) := sn_mk R
  obtain ⟨R1, R2, ⟨b1, b2, l, q, el, eq, hl, hlc, hS⟩, R4⟩ := R
  unfold wpX_prev
  rcases hS with ⟨ea, es⟩ | ⟨es, e2, G, a, ea, a1, a9, oc, nh, hs, len⟩
  · subst ea es
    exact sn_xins (fun _ => br_t rfl (br_t rfl ⟨rfl, J⟩)) (fun z => absurd rfl z)
  · subst ea es
    obtain ⟨P, c65, h00⟩ := sn_GP R1.2.2.2.2.2.2.1 G
    have XS := G.2.2.1
    have YS := G.2.2.2
    have YT := sn_TLy R2
    have LL := sn_YTL YT
    refine sn_xins (fun z => absurd z (sn_nm1 (by omega))) (fun _ => br_f (by decide) ?_)
    refine sn_xbef P XS a rfl a1 a9 (fun b hb1 hb9 al ht => ?_) (fun ht => ?_)
    · have ao := sn_alO P (by omega) al
      refine br_f (sn_nm1 (by omega)) ?_
      refine sn_xsel P c65 XS LL a_typedText bp b rfl hb1 (by omega) ao.1 ?_
      refine br_f (by decide) (fun y ey => ?_)
      rw [ey, sn_sb a 1 a1 rfl]
      refine ⟨a - b, sn_ypA P c65 YS YT bp b hb1 al (fun rl rb tb tl ip => ⟨rfl, ?_⟩) (a - 1 - b) (a - 1) (a - b) (by omega) (by omega) (by omega) (fun t h1 h2 => ht t h1 (by omega))⟩
      exact sn_mk ⟨R1, R2, ⟨Or.inr rfl, Or.inr rfl, l, _, el, rfl, sn_posB P R1.2.2.2.2.2.2.2.1 len ao.2, hlc, Or.inr ⟨rfl, rfl, G, b, rfl, hb1, by omega, ao.1, al.2, fun z => absurd z (by decide), len⟩⟩, R4⟩
    · refine br_t rfl (br_f (by decide) (fun y ey => ?_))
      rw [ey, sn_sb a 1 a1 rfl]
      exact ⟨a, sn_ypN P c65 YS YT ⟨rfl, J⟩ (a - 1) a (by omega) (by omega) (fun t h1 h2 => ht t h1 (by omega))⟩
theorem i_vc_stopState {k : Nat} {u : SX} {v : SY} (I : i_Rel k u v) (hk : k + 3 ≤ 1538) (v1 : Int32) : wpX_stopState (fun r => wpY_stopState (fun r' => r' = r ∧ i_Rel (k + 3) u v) v v1) u v1 := by
  refine sn_elim (motive := fun u v => wpX_stopState (fun r => wpY_stopState (fun r' => r' = r ∧ i_Rel (k + 3) u v) v v1) u v1) ?_ I
  intro cap hc dep n sb bl bp i c d st K V S oa ca sg dp pa f_length f_caret f_selStart f_merge f_itemCount f_activeStop f_selected f_draftCount f_depth f_readAt y_session y_selected y_nItems y_finalIdx y_fromStruct y_rlen y_tlen y_svF y_svL a_text a_body a_history a_itemKind a_itemValue a_openAt a_closeAt a_base a_typedLength a_typedText a_draftKind a_draftValue a_draftOpenAt a_draftCloseAt a_enclosing a_trialLength b_sBody b_typed b_tLen b_kind b_val b_stopOf b_par b_ipos b_prim b_stack b_occ b_rbuf b_tbuf b_svT b_hist R
  have J : i_Rel (k + 3) (nI cap, nI hc, f_length, f_caret, f_selStart, nI n, nI dep, f_merge, f_itemCount, nI bl, nI bp, f_activeStop, f_selected, f_draftCount, f_depth, f_readAt, a_text, a_body, a_history, a_itemKind, a_itemValue, a_openAt, a_closeAt, a_base, a_typedLength, a_typedText, a_draftKind, a_draftValue, a_draftOpenAt, a_draftCloseAt, a_enclosing, a_trialLength) (nI cap, nI hc, f_length, f_caret, f_selStart, nI n, nI sb, f_merge, y_session, y_selected, f_activeStop, y_nItems, y_finalIdx, y_fromStruct, nI bl, nI bp, y_rlen, y_tlen, 0, y_svF, y_svL, nI dep, a_text, a_body, b_sBody, b_typed, b_tLen, a_typedText, b_kind, b_val, b_stopOf, b_par, b_ipos, b_prim, b_stack, b_occ, a_base, b_rbuf, b_tbuf, b_svT, b_hist) := sn_mk R
  obtain ⟨R1, R2, ⟨b1, b2, l, q, el, eq, hl, hlc, hS⟩, R4⟩ := R
  rcases hS with ⟨ea, es⟩ | ⟨es, e2, G, a, ea, a1, a9, oc, nh, hs, len⟩
  · subst ea es
    unfold wpX_stopState
    exact sn_xins (fun _ => br_t rfl (br_t rfl ⟨rfl, J⟩)) (fun z => absurd rfl z)
  · subst ea es
    obtain ⟨P, c65, h00⟩ := sn_GP R1.2.2.2.2.2.2.1 G
    have XS := G.2.2.1
    have YS := G.2.2.2
    have YT := sn_TLy R2
    have LL := sn_YTL YT
    by_cases z : v1 < 0
    · unfold wpX_stopState
      exact sn_xins (fun z => absurd z (sn_nm1 (by omega))) (fun _ => br_f (by decide) (br_t z (br_f (by decide) (br_t z ⟨rfl, J⟩))))
    · obtain ⟨s, hs1, rfl⟩ := nI_of z
      by_cases h9 : s ≤ 9
      · refine sn_xstS P XS (sn_nm1 (by omega)) s h9 (fun e => ?_) (fun h1 e => ?_) (fun h1 e f => ?_) (fun h1 e f => ?_) (fun h1 e f => ?_)
        · exact sn_ystS P c65 YS R2 s h9 (fun _ => ⟨rfl, J⟩) (fun w => absurd e (by omega)) (fun w => absurd e (by omega)) (fun w => absurd e (by omega)) (fun w => absurd e (by omega))
        · exact sn_ystS P c65 YS R2 s h9 (fun w => absurd h1 (by omega)) (fun _ _ => ⟨rfl, J⟩) (fun _ w => absurd e w) (fun _ w => absurd e w.1) (fun _ w => absurd e w.1)
        · exact sn_ystS P c65 YS R2 s h9 (fun w => absurd h1 (by omega)) (fun _ w => absurd w e) (fun _ _ _ => ⟨rfl, J⟩) (fun _ w => absurd w f) (fun _ w => absurd w f)
        · exact sn_ystS P c65 YS R2 s h9 (fun w => absurd h1 (by omega)) (fun _ w => absurd w e.1) (fun _ _ w => absurd e w) (fun _ _ _ => ⟨rfl, J⟩) (fun _ _ w => absurd f w)
        · exact sn_ystS P c65 YS R2 s h9 (fun w => absurd h1 (by omega)) (fun _ w => absurd w e.1) (fun _ _ w => absurd e w) (fun _ _ w => absurd w f) (fun _ _ _ => ⟨rfl, J⟩)
      · have n9 : ¬ nI s ≤ (9 : Int32) := fun w => h9 ((nI_leI (a := s) (b := 9) (by omega) (by omega)).mp w)
        unfold wpX_stopState
        exact sn_xins (fun z => absurd z (sn_nm1 (by omega))) (fun _ => br_f (by decide) (br_f z (br_f n9 (br_f (by decide) (br_f z (br_f n9 ⟨rfl, J⟩))))))
end SOG
