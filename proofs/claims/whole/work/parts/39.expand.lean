section SOQ
variable {f_cap f_hcap f_len f_caret f_sel f_bodyLen f_sBodyLen f_merge f_session f_selected f_active f_nItems f_finalIdx f_fromStruct f_baseLen f_baseP f_rlen f_tlen f_clearAll f_svF f_svL f_hCount : Int32} {a_buf a_body a_sBody a_typed a_tLen a_tText a_kind a_val a_stopOf a_par a_ipos a_prim a_stack a_occ a_base a_rbuf a_tbuf a_svT a_hist : Nat → Int32}
theorem sn_yre {post : Int32 → SY → Prop} (sb : Nat) (hs : sb ≤ 64) (h : ∀ (r ni fi : Int32) (ki va so pr pm sk oc : Nat → Int32), (∀ g : sn_G, sn_pp a_sBody sb = some g → sn_YS g.2.1 g.2.2.2.2.1 g.2.2.2.2.2.1 g.2.2.2.2.2.2.1 g.2.2.2.2.2.2.2.1 g.2.2.2.2.2.2.2.2.2.1 g.2.2.2.2.2.2.2.2.2.2.2 ni fi ki va so pr pm) → post r (f_cap, f_hcap, f_len, f_caret, f_sel, f_bodyLen, nI sb, f_merge, f_session, f_selected, f_active, ni, fi, 1, f_baseLen, f_baseP, f_rlen, f_tlen, f_clearAll, f_svF, f_svL, f_hCount, a_buf, a_body, a_sBody, a_typed, a_tLen, a_tText, ki, va, so, pr, a_ipos, pm, sk, oc, a_base, a_rbuf, a_tbuf, a_svT, a_hist)) :
    wpY_parse post (f_cap, f_hcap, f_len, f_caret, f_sel, f_bodyLen, nI sb, f_merge, f_session, f_selected, f_active, f_nItems, f_finalIdx, 1, f_baseLen, f_baseP, f_rlen, f_tlen, f_clearAll, f_svF, f_svL, f_hCount, a_buf, a_body, a_sBody, a_typed, a_tLen, a_tText, a_kind, a_val, a_stopOf, a_par, a_ipos, a_prim, a_stack, a_occ, a_base, a_rbuf, a_tbuf, a_svT, a_hist) := by
  refine sn_ypar (b := a_sBody) (n := sb) (Or.inr ⟨by decide, rfl⟩) hs ⟨fun z => absurd z (by decide), fun _ => rfl⟩ ⟨fun e ni fi ki va so pr pm sk oc => ?_, fun g e ni fi ki va so pr pm sk oc D => ?_⟩
  · exact h _ ni fi ki va so pr pm sk oc (fun g eg => by rw [e] at eg; exact absurd eg (by simp))
  · exact h _ ni fi ki va so pr pm sk oc (fun g' eg => by
      rw [e] at eg
      cases eg
      exact D)
end SOQ
section SOR
theorem i_vc_expand {k : Nat} {u : SX} {v : SY} (I : i_Rel k u v) (hk : k + 3 ≤ 1538) : wpX_expand (fun r u' => wpY_expand (fun r' v' => r' = r ∧ i_Rel (k + 3) u' v') v) u := by
  refine sn_elim (motive := fun u v => wpX_expand (fun r u' => wpY_expand (fun r' v' => r' = r ∧ i_Rel (k + 3) u' v') v) u) ?_ I
  intro cap hc dep n sb bl bp i c d st K V S oa ca sg dp pa f_length f_caret f_selStart f_merge f_itemCount f_activeStop f_selected f_draftCount f_depth f_readAt y_session y_selected y_nItems y_finalIdx y_fromStruct y_rlen y_tlen y_svF y_svL a_text a_body a_history a_itemKind a_itemValue a_openAt a_closeAt a_base a_typedLength a_typedText a_draftKind a_draftValue a_draftOpenAt a_draftCloseAt a_enclosing a_trialLength b_sBody b_typed b_tLen b_kind b_val b_stopOf b_par b_ipos b_prim b_stack b_occ b_rbuf b_tbuf b_svT b_hist R
  have J : i_Rel (k + 3) (nI cap, nI hc, f_length, f_caret, f_selStart, nI n, nI dep, f_merge, f_itemCount, nI bl, nI bp, f_activeStop, f_selected, f_draftCount, f_depth, f_readAt, a_text, a_body, a_history, a_itemKind, a_itemValue, a_openAt, a_closeAt, a_base, a_typedLength, a_typedText, a_draftKind, a_draftValue, a_draftOpenAt, a_draftCloseAt, a_enclosing, a_trialLength) (nI cap, nI hc, f_length, f_caret, f_selStart, nI n, nI sb, f_merge, y_session, y_selected, f_activeStop, y_nItems, y_finalIdx, y_fromStruct, nI bl, nI bp, y_rlen, y_tlen, 0, y_svF, y_svL, nI dep, a_text, a_body, b_sBody, b_typed, b_tLen, a_typedText, b_kind, b_val, b_stopOf, b_par, b_ipos, b_prim, b_stack, b_occ, a_base, b_rbuf, b_tbuf, b_svT, b_hist) := sn_mk R
  obtain ⟨R1, R2, R3, R4⟩ := R
  have n64 := R1.2.2.2.2.2.1
  have s64 := R1.2.2.2.2.2.2.1
  have c64 := R1.2.1
  have h16 := R1.2.2.2.1
  have TB := sn_TLb R2
  have again : ∀ (xr1 xr2 xr3 : Int32) (dK dV dO dC en : Nat → Int32) (ni fi : Int32) (ki va so pr pm sk oc : Nat → Int32) (rl tl : Int32) (ip rb tb : Nat → Int32), (∀ g : sn_G, sn_pp b_sBody sb = some g → sn_YS g.2.1 g.2.2.2.2.1 g.2.2.2.2.2.1 g.2.2.2.2.2.2.1 g.2.2.2.2.2.2.2.1 g.2.2.2.2.2.2.2.2.2.1 g.2.2.2.2.2.2.2.2.2.2.2 ni fi ki va so pr pm) →
      i_Rel (k + 3) (nI cap, nI hc, f_length, f_caret, f_selStart, nI n, nI dep, f_merge, f_itemCount, nI bl, nI bp, f_activeStop, f_selected, xr1, xr2, xr3, a_text, a_body, a_history, a_itemKind, a_itemValue, a_openAt, a_closeAt, a_base, a_typedLength, a_typedText, dK, dV, dO, dC, en, a_trialLength) (nI cap, nI hc, f_length, f_caret, f_selStart, nI n, nI sb, f_merge, y_session, y_selected, f_activeStop, ni, fi, 1, nI bl, nI bp, rl, tl, 0, y_svF, y_svL, nI dep, a_text, a_body, b_sBody, b_typed, b_tLen, a_typedText, ki, va, so, pr, ip, pm, sk, oc, a_base, rb, tb, b_svT, b_hist) := by
    intro xr1 xr2 xr3 dK dV dO dC en ni fi ki va so pr pm sk oc rl tl ip rb tb hY
    have hG : sn_GG sb b_sBody i c d st K V S oa ca sg dp pa f_itemCount y_nItems y_finalIdx a_itemKind a_itemValue a_openAt a_closeAt b_kind b_val b_stopOf b_par b_prim → sn_GG sb b_sBody i c d st K V S oa ca sg dp pa f_itemCount ni fi a_itemKind a_itemValue a_openAt a_closeAt ki va so pr pm := fun g => ⟨g.1, g.2.1, g.2.2.1, hY _ g.1⟩
    exact sn_mk ⟨R1, R2, sn_SQg hG R3, fun h hh => sn_HSg hG (R4 h hh)⟩
  obtain ⟨b1, b2, l, q, el, eq, hl, hlc, hS⟩ := R3
  subst el eq
  unfold wpX_expand
  rcases hS with ⟨ea, es⟩ | ⟨es, e2, G, a, ea, a1, a9, oc, nh, hs, len⟩
  · subst ea es
    refine sn_xins (fun _ => br_t rfl ?_) (fun z => absurd rfl z)
    refine sn_xpb n64 ⟨fun e dc de ra dK dV dO dC en => br_t rfl ?_, fun g eg dK dV dO dC en D => br_f (by decide) ?_⟩
    · refine br_t rfl ?_
      refine sn_ypar (b := a_body) (n := n) (Or.inl ⟨rfl, rfl⟩) n64 ⟨fun _ => rfl, fun z => absurd rfl z⟩ ⟨fun _ ni fi ki va so pr pm sk oc => br_t rfl ?_, fun g' e' => by rw [e] at e'; exact absurd e' (by simp)⟩
      exact sn_yre sb s64 (fun r ni fi ki va so pr pm sk oc hY => ⟨rfl, again dc de ra dK dV dO dC en ni fi ki va so pr pm sk oc _ _ _ _ _ hY⟩)
    · obtain ⟨P2, c65, h00⟩ := sn_ppI n64 eg
      obtain ⟨i2, c2, d2, st2, K2, V2, S2, oa2, ca2, sg2, dp2, pa2⟩ := g
      have h00' : oa2 0 < c2 := h00
      dsimp only at P2 c65
      have XS2 : sn_XS c2 K2 V2 oa2 ca2 dK dV dO dC := D.1
      have lb := sn_rrB' (V := V2) (L := sn_L0) (T := a_typedText) (x := c2) P2 c65 (sn_LL8 sn_LL0) (Nat.le_refl c2)
      refine sn_xudl P2 c65 XS2 a_typedText ?_
      show (_ → _) ∧ (_ → _)
      rw [nI_add]
      have T0 : sn_YT 1 b_typed b_tLen sn_L0 := fun s hs => Or.inl ⟨rfl, Or.inl (by decide)⟩
      by_cases fit : l + (sn_rr K2 V2 S2 oa2 ca2 sn_L0 a_typedText c2).length ≤ cap
      · refine br_t (nI_le fit (by omega)) ?_
        refine sn_xgrp 0 0 0 hc h16 (Or.inl ⟨by omega, rfl, rfl⟩) b1 (fun xh' hx => ?_)
        refine sn_xadopt c65 XS2 (fun ik iv op cl XS3 => ?_)
        refine sn_xkeep l (by omega) ?_
        refine sn_xclr (fun L hL => ?_)
        have LL : sn_LL L := fun s hs => Or.inl (hL s hs)
        have eL := sn_rrLC (V := V2) (L := sn_L0) (L' := L) (T := a_typedText) (T' := a_typedText) (x := c2) P2 (fun s hs => hL s hs) (Nat.le_refl c2)
        have eL2 := sn_rrLC (V := V2) (L := L) (L' := L) (T := fun _ => 0) (T' := a_typedText) (x := c2) P2 (fun s hs => rfl) (Nat.le_refl c2)
        have nhL : ∀ f x, ¬ sn_hid oa2 ca2 L f x := fun f x ⟨s, _, s9, sl, _⟩ => sl (hL s s9)
        have ppE : sn_pp (sn_cp a_body 0 b_sBody 0 n) n = some (i2, c2, d2, st2, K2, V2, S2, oa2, ca2, sg2, dp2, pa2) := by
          rw [← eg]
          refine sn_ppC (fun j hj => ?_)
          have w := sn_cpI (a := a_body) (b := b_sBody) (p := 0) (q := 0) (n := n) (j := j) hj
          rw [Nat.zero_add] at w
          exact w
        refine sn_xrw P2 c65 XS3 LL q l hl (by omega) ?_
        have Yw : ∀ {X' : SX}, (∀ (ni fi : Int32) (ki va so pr pm sk oc : Nat → Int32) (yh' ty tl : Nat → Int32) (rl tll : Int32) (ip rb tb : Nat → Int32), sn_YS c2 K2 V2 S2 oa2 sg2 pa2 ni fi ki va so pr pm → sn_ysv b_hist yh' (170 * 0) 0 (nI l) (nI q) f_selStart 0 (-1) y_selected a_text b_typed b_tLen a_typedText → (∀ s, s ≤ 9 → ty s = 0) → (∀ s, s ≤ 9 → tl s = 0) →
              ∃ n211, wY_expand_211 (fun r' v' => r' = 0 ∧ i_Rel (k + 3) X' v') (nI cap) (nI hc) (nI (l + (sn_rr K2 V2 S2 oa2 ca2 L a_typedText c2).length)) (nI q) f_selStart (nI n) (nI n) 0 0 y_selected ((-1)) ni fi 0 (nI l) (nI q) rl tll 0 y_svF y_svL (nI (0 + 1)) (sn_wr a_text 0 (sn_ls (sn_cp a_text 0 a_base 0 l) q ++ sn_rr K2 V2 S2 oa2 ca2 L a_typedText c2 ++ sn_ls (fun k => sn_cp a_text 0 a_base 0 l (q + k)) (l - q))) a_body (sn_cp a_body 0 b_sBody 0 n) ty tl a_typedText ki va so pr ip pm sk oc (sn_cp a_text 0 a_base 0 l) rb tb b_svT yh' n211 1) →
            wpY_expand (fun r' v' => r' = 0 ∧ i_Rel (k + 3) X' v') (nI cap, nI hc, nI l, nI q, f_selStart, nI n, nI sb, f_merge, 0, y_selected, (-1), y_nItems, y_finalIdx, y_fromStruct, nI bl, nI bp, y_rlen, y_tlen, 0, y_svF, y_svL, nI dep, a_text, a_body, b_sBody, b_typed, b_tLen, a_typedText, b_kind, b_val, b_stopOf, b_par, b_ipos, b_prim, b_stack, b_occ, a_base, b_rbuf, b_tbuf, b_svT, b_hist) := by
          intro X' hF
          refine br_t rfl ?_
          refine sn_ypar (b := a_body) (n := n) (Or.inl ⟨rfl, rfl⟩) n64 ⟨fun _ => rfl, fun z => absurd rfl z⟩ ⟨fun e' => by rw [eg] at e'; exact absurd e' (by simp), fun g' e' ni fi ki va so pr pm sk oc D' => br_f (by decide) ?_⟩
          rw [eg] at e'
          cases e'
          have YS2 : sn_YS c2 K2 V2 S2 oa2 sg2 pa2 ni fi ki va so pr pm := D'
          refine sn_yrn P2 c65 YS2 T0 (fun rb tb tll ip A Ip => ?_)
          show (_ → _) ∧ (_ → _)
          rw [nI_add]
          refine br_t (nI_le fit (by omega)) ?_
          refine sn_ypush 0 0 0 hc h16 (Or.inl ⟨by omega, rfl, rfl⟩) TB (Or.inl rfl) b2 (fun yh' hy => ?_)
          refine sn_yex n l n64 (by omega) (fun ty tl h1 h2 => ?_)
          have YT2 : sn_YT 0 ty tl L := fun s hs => Or.inl ⟨hL s hs, Or.inr (h1 s hs)⟩
          unfold wY_expand_184
          exact sn_yrb P2 c65 YS2 YT2 q l hl (by omega) (fun rl rb tb tll ip => hF ni fi ki va so pr pm sk oc yh' ty tl rl tll ip rb tb YS2 hy h1 h2)
        have Rnew : ∀ (ni fi : Int32) (ki va so pr pm : Nat → Int32) (yh' ty tl : Nat → Int32) (car act xsl ses ysl : Int32), sn_YS c2 K2 V2 S2 oa2 sg2 pa2 ni fi ki va so pr pm → sn_ysv b_hist yh' (170 * 0) 0 (nI l) (nI q) f_selStart 0 (-1) y_selected a_text b_typed b_tLen a_typedText → (∀ s, s ≤ 9 → ty s = 0) → (∀ s, s ≤ 9 → tl s = 0) →
            sn_SQ (sn_GG n (sn_cp a_body 0 b_sBody 0 n) i2 c2 d2 st2 K2 V2 S2 oa2 ca2 sg2 dp2 pa2 (nI c2) ni fi ik iv op cl ki va so pr pm) c2 K2 V2 S2 oa2 ca2 cap l (nI (l + (sn_rr K2 V2 S2 oa2 ca2 L a_typedText c2).length)) car act xsl ses ysl L →
            sn_RF cap hc (0 + 1) n n l q i2 c2 d2 st2 K2 V2 S2 oa2 ca2 sg2 dp2 pa2 (nI (l + (sn_rr K2 V2 S2 oa2 ca2 L a_typedText c2).length)) car act xsl ses ysl (nI c2) ni fi L ty tl (sn_cp a_body 0 b_sBody 0 n) ik iv op cl ki va so pr pm xh' yh' := by
          intro ni fi ki va so pr pm yh' ty tl car act xsl ses ysl YS2 hy h1 h2 SQ
          have hP2 : sn_GG n (sn_cp a_body 0 b_sBody 0 n) i2 c2 d2 st2 K2 V2 S2 oa2 ca2 sg2 dp2 pa2 (nI c2) ni fi ik iv op cl ki va so pr pm → sn_PI c2 0 st2 K2 V2 S2 oa2 ca2 sg2 dp2 pa2 := fun _ => P2
          refine ⟨⟨R1.1, R1.2.1, R1.2.2.1, R1.2.2.2.1, by omega, n64, n64, hl, by omega⟩, fun s hs => Or.inl ⟨hL s hs, h1 s hs, h2 s hs⟩, SQ, ?_⟩
          refine sn_push (dep := 0) (xh := a_history) (yh := b_hist) (e := 0) (d := 0) hP2 (by omega) (fun h hh => absurd hh (by omega)) ?_ hx hy
          exact ⟨rfl, rfl, rfl, rfl, fun _ _ => rfl, fun _ _ => rfl, R2, ⟨b1, b2, l, q, rfl, rfl, hl, hlc, Or.inl ⟨rfl, rfl⟩⟩⟩
        refine sn_xgo P2 c65 h00' XS3 LL a_typedText q 0 rfl (by omega) (fun a ha1 ha9 al ht => ?_) (fun ht => ?_)
        · have ao := sn_alO P2 (by omega) al
          have lm := sn_rrM' (K := K2) (V := V2) (S := S2) (oa := oa2) (ca := ca2) (L := L) (T := a_typedText) ao.2
          refine Yw (fun ni fi ki va so pr pm sk oc yh' ty tl rl tll ip rb tb YS2 hy h1 h2 => ?_)
          have YT2 : sn_YT 0 ty tl L := fun s hs => Or.inl ⟨hL s hs, Or.inr (h1 s hs)⟩
          refine ⟨a, sn_yexA P2 c65 YS2 YT2 (fun s => nhL _ _) q a ha9 al (fun rl rb tb tll ip => ⟨rfl, ?_⟩) (a - 1) 1 a (by omega) (by omega) (by omega) (fun t h3 h4 => ht t (by omega) h4)⟩
          refine sn_mk (dep := 0 + 1) (Rnew ni fi ki va so pr pm yh' ty tl _ _ _ _ _ YS2 hy h1 h2 ⟨Or.inr rfl, Or.inr rfl, l + (sn_rr K2 V2 S2 oa2 ca2 L a_typedText c2).length, q + (sn_rr K2 V2 S2 oa2 ca2 L a_typedText (ca2 a)).length, rfl, rfl, by omega, by omega, Or.inr ⟨rfl, rfl, ⟨ppE, rfl, XS3, YS2⟩, a, rfl, by omega, ha9, ao.1, al.2, fun z => absurd z (by decide), by rw [eL2]⟩⟩)
        · have lm := sn_rrM' (K := K2) (V := V2) (S := S2) (oa := oa2) (ca := ca2) (L := L) (T := a_typedText) (Nat.le_of_lt h00')
          refine Yw (fun ni fi ki va so pr pm sk oc yh' ty tl rl tll ip rb tb YS2 hy h1 h2 => ?_)
          have YT2 : sn_YT 0 ty tl L := fun s hs => Or.inl ⟨hL s hs, Or.inr (h1 s hs)⟩
          refine ⟨10, sn_yexN P2 c65 h00' YS2 YT2 (fun s => nhL _ _) q (fun rl rb tb tll ip => ⟨rfl, ?_⟩) 9 1 10 (by omega) (by omega) (by omega) (fun t h3 h4 => ht t (by omega) h4)⟩
          refine sn_mk (dep := 0 + 1) (Rnew ni fi ki va so pr pm yh' ty tl _ _ _ _ _ YS2 hy h1 h2 ⟨b1, Or.inl rfl, l + (sn_rr K2 V2 S2 oa2 ca2 L a_typedText c2).length, q + (sn_rr K2 V2 S2 oa2 ca2 L a_typedText (oa2 0)).length, rfl, rfl, by omega, by omega, Or.inl ⟨rfl, rfl⟩⟩)
      · refine br_f (nI_ge (a := cap) (b := l + (sn_rr K2 V2 S2 oa2 ca2 sn_L0 a_typedText c2).length) (by omega) (by omega)) ?_
        refine br_t rfl ?_
        refine sn_ypar (b := a_body) (n := n) (Or.inl ⟨rfl, rfl⟩) n64 ⟨fun _ => rfl, fun z => absurd rfl z⟩ ⟨fun e' => by rw [eg] at e'; exact absurd e' (by simp), fun g' e' ni fi ki va so pr pm sk oc D' => br_f (by decide) ?_⟩
        rw [eg] at e'
        cases e'
        have YS2 : sn_YS c2 K2 V2 S2 oa2 sg2 pa2 ni fi ki va so pr pm := D'
        refine sn_yrn P2 c65 YS2 T0 (fun rb tb tll ip A Ip => ?_)
        show (_ → _) ∧ (_ → _)
        rw [nI_add]
        refine br_f (nI_ge (by omega) (by omega)) ?_
        exact sn_yre sb s64 (fun r ni fi ki va so pr pm sk oc hY => ⟨rfl, again _ _ _ dK dV dO dC en ni fi ki va so pr pm sk oc _ _ _ _ _ hY⟩)
  · subst ea es
    exact sn_xins (fun z => absurd z (sn_nm1 (by omega))) (fun _ => br_f (by decide) (br_f (by decide) ⟨rfl, J⟩))
end SOR
