section SNH
/-! states and snapshots -/
variable {K S oa ca sg dp pa st : Nat → Nat} {V : Nat → Int32} {c : Nat}
def sn_TL (x t l : Int32) : Prop := (x = -1 ∧ t = 0 ∧ l = 0) ∨ (∃ m : Nat, m ≤ 8 ∧ x = nI m ∧ t = 1 ∧ l = nI m)
def sn_b1 (x : Int32) : Prop := x = 0 ∨ x = 1
/-- what holds in a session -/
def sn_SF (c : Nat) (K : Nat → Nat) (V : Nat → Int32) (S oa ca : Nat → Nat) (bl l : Nat) (act xsl : Int32) (L : Nat → Int32) : Prop :=
  ∃ a : Nat, act = nI a ∧ 1 ≤ a ∧ a ≤ 9 ∧ oa a < c ∧ ¬ sn_hid oa ca L 0 (oa a) ∧ (xsl = 0 → L a ≠ -1) ∧ l = bl + (sn_rr K V S oa ca L (fun _ => 0) c).length
/-- two states, but for their texts -/
def sn_SQ (G : Prop) (c : Nat) (K : Nat → Nat) (V : Nat → Int32) (S oa ca : Nat → Nat) (cap bl : Nat) (xln xcr xac xsl yse ysl : Int32) (L : Nat → Int32) : Prop :=
  sn_b1 xsl ∧ sn_b1 ysl ∧ ∃ l k : Nat, xln = nI l ∧ xcr = nI k ∧ k ≤ l ∧ l ≤ cap ∧ ((xac = -1 ∧ yse = 0) ∨ (yse = 1 ∧ ysl = xsl ∧ G ∧ sn_SF c K V S oa ca bl l xac xsl L))
def sn_SS (G : Prop) (c : Nat) (K : Nat → Nat) (V : Nat → Int32) (S oa ca : Nat → Nat) (cap bl : Nat) (xln xcr xse xac xsl yln ycr ysn yse yac ysl : Int32) (xt yt L ty tl xT yT : Nat → Int32) : Prop :=
  yln = xln ∧ ycr = xcr ∧ ysn = xse ∧ yac = xac ∧ (∀ k, k < 64 → yt k = xt k) ∧ (∀ k, k < 80 → yT k = xT k) ∧ (∀ s, s ≤ 9 → sn_TL (L s) (ty s) (tl s)) ∧
  sn_SQ G c K V S oa ca cap bl xln xcr xac xsl yse ysl L
def sn_HS (G : Prop) (c : Nat) (K : Nat → Nat) (V : Nat → Int32) (S oa ca : Nat → Nat) (cap bl : Nat) (xh yh : Nat → Int32) (h : Nat) : Prop :=
  sn_SS G c K V S oa ca cap bl (xh (159 * h)) (xh (159 * h + 1)) (xh (159 * h + 2)) (xh (159 * h + 3)) (xh (159 * h + 4)) (yh (170 * h + 64)) (yh (170 * h + 65)) (yh (170 * h + 66)) (yh (170 * h + 67)) (yh (170 * h + 68)) (yh (170 * h + 69))
    (fun k => xh (159 * h + 5 + k)) (fun k => yh (170 * h + k)) (fun k => xh (159 * h + 69 + k)) (fun k => yh (170 * h + 70 + k)) (fun k => yh (170 * h + 80 + k)) (fun k => xh (159 * h + 79 + k)) (fun k => yh (170 * h + 90 + k))
theorem sn_hidC {L L' : Nat → Int32} (hl : ∀ s, s ≤ 9 → L' s = L s) {f x : Nat} : sn_hid oa ca L' f x ↔ sn_hid oa ca L f x := by
  constructor
  · exact fun ⟨s, h1, h9, h3, h4⟩ => ⟨s, h1, h9, by rw [← hl s h9]; exact h3, h4⟩
  · exact fun ⟨s, h1, h9, h3, h4⟩ => ⟨s, h1, h9, by rw [hl s h9]; exact h3, h4⟩
theorem sn_SQc {G : Prop} {cap bl : Nat} {xln xcr xac xsl yse ysl : Int32} {L L' : Nat → Int32} (hP : G → sn_PI c 0 st K V S oa ca sg dp pa)
    (hl : ∀ s, s ≤ 9 → L' s = L s) (h : sn_SQ G c K V S oa ca cap bl xln xcr xac xsl yse ysl L) : sn_SQ G c K V S oa ca cap bl xln xcr xac xsl yse ysl L' := by
  obtain ⟨h1, h2, l, k, e1, e2, h3, h4, h5⟩ := h
  refine ⟨h1, h2, l, k, e1, e2, h3, h4, ?_⟩
  rcases h5 with h5 | ⟨h5, h6, h7, a, a1, a2, a3, a4, a5, a6, a7⟩
  · exact Or.inl h5
  · refine Or.inr ⟨h5, h6, h7, a, a1, a2, a3, a4, fun z => a5 ((sn_hidC hl).mp z), fun z => by rw [hl a a3]; exact a6 z, ?_⟩
    rw [a7, sn_rrLC (T := fun _ => 0) (T' := fun _ => 0) (hP h7) hl (Nat.le_refl c)]
theorem sn_SSc {G : Prop} {cap bl : Nat} {xln xcr xse xac xsl yln ycr ysn yse yac ysl : Int32} {xt yt L ty tl xT yT xt' yt' L' ty' tl' xT' yT' : Nat → Int32} (hP : G → sn_PI c 0 st K V S oa ca sg dp pa)
    (h1 : ∀ k, k < 64 → xt' k = xt k) (h2 : ∀ k, k < 64 → yt' k = yt k) (h3 : ∀ s, s ≤ 9 → L' s = L s) (h4 : ∀ s, s ≤ 9 → ty' s = ty s) (h5 : ∀ s, s ≤ 9 → tl' s = tl s) (h6 : ∀ k, k < 80 → xT' k = xT k) (h7 : ∀ k, k < 80 → yT' k = yT k)
    (h : sn_SS G c K V S oa ca cap bl xln xcr xse xac xsl yln ycr ysn yse yac ysl xt yt L ty tl xT yT) : sn_SS G c K V S oa ca cap bl xln xcr xse xac xsl yln ycr ysn yse yac ysl xt' yt' L' ty' tl' xT' yT' := by
  obtain ⟨e1, e2, e3, e4, e5, e6, e7, e8⟩ := h
  refine ⟨e1, e2, e3, e4, fun k hk => by rw [h1 k hk, h2 k hk]; exact e5 k hk, fun k hk => by rw [h6 k hk, h7 k hk]; exact e6 k hk, fun s hs => by rw [h3 s hs, h4 s hs, h5 s hs]; exact e7 s hs, sn_SQc hP h3 e8⟩
theorem sn_HSc {G : Prop} {cap bl h h' : Nat} {xh xh' yh yh' : Nat → Int32} (hP : G → sn_PI c 0 st K V S oa ca sg dp pa) (hx : ∀ j, j < 159 → xh' (159 * h' + j) = xh (159 * h + j))
    (hy : ∀ j, j < 170 → yh' (170 * h' + j) = yh (170 * h + j)) (H : sn_HS G c K V S oa ca cap bl xh yh h) : sn_HS G c K V S oa ca cap bl xh' yh' h' := by
  unfold sn_HS
  have x0 : xh' (159 * h') = xh (159 * h) := hx 0 (by omega)
  rw [x0, hx 1 (by omega), hx 2 (by omega), hx 3 (by omega), hx 4 (by omega), hy 64 (by omega), hy 65 (by omega), hy 66 (by omega), hy 67 (by omega), hy 68 (by omega), hy 69 (by omega)]
  refine sn_SSc hP (fun k hk => ?_) (fun k hk => ?_) (fun k hk => ?_) (fun k hk => ?_) (fun k hk => ?_) (fun k hk => ?_) (fun k hk => ?_) H
  · show xh' (159 * h' + 5 + k) = xh (159 * h + 5 + k)
    rw [Nat.add_assoc, Nat.add_assoc]; exact hx _ (by omega)
  · exact hy _ (by omega)
  · show xh' (159 * h' + 69 + k) = xh (159 * h + 69 + k)
    rw [Nat.add_assoc, Nat.add_assoc]; exact hx _ (by omega)
  · show yh' (170 * h' + 70 + k) = yh (170 * h + 70 + k)
    rw [Nat.add_assoc, Nat.add_assoc]; exact hy _ (by omega)
  · show yh' (170 * h' + 80 + k) = yh (170 * h + 80 + k)
    rw [Nat.add_assoc, Nat.add_assoc]; exact hy _ (by omega)
  · show xh' (159 * h' + 79 + k) = xh (159 * h + 79 + k)
    rw [Nat.add_assoc, Nat.add_assoc]; exact hx _ (by omega)
  · show yh' (170 * h' + 90 + k) = yh (170 * h + 90 + k)
    rw [Nat.add_assoc, Nat.add_assoc]; exact hy _ (by omega)
theorem sn_SQg {G G' : Prop} {cap bl : Nat} {xln xcr xac xsl yse ysl : Int32} {L : Nat → Int32} (hG : G → G') (h : sn_SQ G c K V S oa ca cap bl xln xcr xac xsl yse ysl L) : sn_SQ G' c K V S oa ca cap bl xln xcr xac xsl yse ysl L := by
  obtain ⟨h1, h2, l, k, e1, e2, h3, h4, h5⟩ := h
  refine ⟨h1, h2, l, k, e1, e2, h3, h4, ?_⟩
  rcases h5 with h5 | ⟨h5, h6, h7, h8⟩
  · exact Or.inl h5
  · exact Or.inr ⟨h5, h6, hG h7, h8⟩
theorem sn_SSg {G G' : Prop} {cap bl : Nat} {xln xcr xse xac xsl yln ycr ysn yse yac ysl : Int32} {xt yt L ty tl xT yT : Nat → Int32} (hG : G → G') (h : sn_SS G c K V S oa ca cap bl xln xcr xse xac xsl yln ycr ysn yse yac ysl xt yt L ty tl xT yT) :
    sn_SS G' c K V S oa ca cap bl xln xcr xse xac xsl yln ycr ysn yse yac ysl xt yt L ty tl xT yT := by
  obtain ⟨e1, e2, e3, e4, e5, e6, e7, e8⟩ := h
  exact ⟨e1, e2, e3, e4, e5, e6, e7, sn_SQg hG e8⟩
theorem sn_HSg {G G' : Prop} {cap bl h : Nat} {xh yh : Nat → Int32} (hG : G → G') (H : sn_HS G c K V S oa ca cap bl xh yh h) : sn_HS G' c K V S oa ca cap bl xh yh h := sn_SSg hG H
/-- a snapshot written at d, those below kept (e = 0) or moved down by one (e = 159, 170) -/
def sn_xsv (xh xh' : Nat → Int32) (e d : Nat) (ln cr se ac sl : Int32) (t L T : Nat → Int32) : Prop :=
  (∀ j, j < 159 * d → xh' j = xh (e + j)) ∧ xh' (159 * d) = ln ∧ xh' (159 * d + 1) = cr ∧ xh' (159 * d + 2) = se ∧ xh' (159 * d + 3) = ac ∧ xh' (159 * d + 4) = sl ∧
  (∀ k, k < 64 → xh' (159 * d + 5 + k) = t k) ∧ (∀ k, k ≤ 9 → xh' (159 * d + 69 + k) = L k) ∧ (∀ k, k < 80 → xh' (159 * d + 79 + k) = T k)
def sn_ysv (yh yh' : Nat → Int32) (e d : Nat) (ln cr se ss ac sl : Int32) (t ty tl T : Nat → Int32) : Prop :=
  (∀ j, j < 170 * d → yh' j = yh (e + j)) ∧ (∀ k, k < 64 → yh' (170 * d + k) = t k) ∧ yh' (170 * d + 64) = ln ∧ yh' (170 * d + 65) = cr ∧ yh' (170 * d + 66) = se ∧ yh' (170 * d + 67) = ss ∧ yh' (170 * d + 68) = ac ∧ yh' (170 * d + 69) = sl ∧
  (∀ k, k ≤ 9 → yh' (170 * d + 70 + k) = ty k) ∧ (∀ k, k ≤ 9 → yh' (170 * d + 80 + k) = tl k) ∧ (∀ k, k < 80 → yh' (170 * d + 90 + k) = T k)
theorem sn_push {G : Prop} {cap bl dep e d : Nat} {xln xcr xse xac xsl yln ycr ysn yse yac ysl : Int32} {xt yt L ty tl xT yT xh xh' yh yh' : Nat → Int32} (hP : G → sn_PI c 0 st K V S oa ca sg dp pa)
    (he : d + e ≤ dep) (H : ∀ h, h < dep → sn_HS G c K V S oa ca cap bl xh yh h)
    (hs : sn_SS G c K V S oa ca cap bl xln xcr xse xac xsl yln ycr ysn yse yac ysl xt yt L ty tl xT yT)
    (hx : sn_xsv xh xh' (159 * e) d xln xcr xse xac xsl xt L xT) (hy : sn_ysv yh yh' (170 * e) d yln ycr ysn yse yac ysl yt ty tl yT) : ∀ h, h < d + 1 → sn_HS G c K V S oa ca cap bl xh' yh' h := by
  intro h hh
  by_cases z : h = d
  · obtain ⟨_, x0, x1, x2, x3, x4, x5, x6, x7⟩ := hx
    obtain ⟨_, y0, y1, y2, y3, y4, y5, y6, y7, y8, y9⟩ := hy
    rw [z]
    unfold sn_HS
    rw [x0, x1, x2, x3, x4, y1, y2, y3, y4, y5, y6]
    exact sn_SSc hP x5 y0 x6 y7 y8 x7 y9 hs
  · refine sn_HSc hP (fun j hj => ?_) (fun j hj => ?_) (H (e + h) (by omega))
    · rw [hx.1 _ (by omega)]; congr 1; omega
    · rw [hy.1 _ (by omega)]; congr 1; omega
end SNH
