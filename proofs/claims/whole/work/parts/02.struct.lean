section SNB
/-! the pure structure: items with brackets, a stack of open stops -/
def sn_u (f : Nat → Nat) (k x : Nat) : Nat → Nat := fun j => if j = k then x else f j
theorem sn_us {f : Nat → Nat} {k x : Nat} : sn_u f k x k = x := if_pos rfl
theorem sn_un {f : Nat → Nat} {k x j : Nat} (h : j ≠ k) : sn_u f k x j = f j := if_neg h
def sn_enc (oa ca : Nat → Nat) (s x : Nat) : Prop := oa s < x ∧ x < ca s
def sn_top (d : Nat) (st : Nat → Nat) : Nat := if d = 0 then 0 else st (d - 1)
/-- the numbering of the items that are no CLOSE -/
def sn_I2 (c : Nat) (K sg : Nat → Nat) : Prop := sg 0 = 0 ∧ ∀ x, x < c → sg (x + 1) = sg x + (if K x = 2 then 0 else 1)
def sn_IV (c : Nat) (K S : Nat → Nat) (V : Nat → Int32) : Prop := ∀ x, x < c → K x ≠ 0 → V x = nI (S x)
/-- the stops: absent, the final one, open, closed -/
def sn_IA (c : Nat) (K S oa ca : Nat → Nat) : Prop := ∀ s, (oa s = 1000 ∧ ca s = 1000) ∨ (s = 0 ∧ oa s < c ∧ K (oa s) = 3 ∧ S (oa s) = 0 ∧ ca s = oa s) ∨
  (1 ≤ s ∧ s ≤ 9 ∧ oa s < c ∧ K (oa s) = 1 ∧ S (oa s) = s ∧ ca s = 1000) ∨
  (1 ≤ s ∧ s ≤ 9 ∧ oa s < ca s ∧ ca s < c ∧ K (oa s) = 1 ∧ S (oa s) = s ∧ K (ca s) = 2 ∧ S (ca s) = s)
/-- the items -/
def sn_IB (c : Nat) (K S oa ca : Nat → Nat) : Prop := ∀ x, x < c → (K x = 0 ∧ S x = 0) ∨ (K x = 1 ∧ 1 ≤ S x ∧ S x ≤ 9 ∧ oa (S x) = x) ∨ (K x = 2 ∧ 1 ≤ S x ∧ S x ≤ 9 ∧ ca (S x) = x) ∨
  (K x = 3 ∧ S x = 0 ∧ oa 0 = x) ∨ (4 ≤ K x ∧ K x ≤ 7 ∧ 1 ≤ S x ∧ S x ≤ 9 ∧ oa (S x) < x)
/-- the open ones: in the order of the stack, each at the depth of its place -/
def sn_IC (c d : Nat) (st oa ca dp : Nat → Nat) : Prop :=
  (∀ k, k < d → 1 ≤ st k ∧ st k ≤ 9 ∧ oa (st k) < c ∧ ca (st k) = 1000 ∧ dp (oa (st k)) = k) ∧
  (∀ k l, k < l → l < d → oa (st k) < oa (st l)) ∧
  (∀ s, 1 ≤ s → oa s < c → ca s = 1000 → ∃ k, k < d ∧ s = st k)
/-- nested -/
def sn_ID (oa ca : Nat → Nat) : Prop := ∀ s t, oa s < oa t → oa t < ca s → oa t < 1000 → ca t ≤ ca s
/-- parents and depths -/
def sn_IE (c : Nat) (K oa ca dp pa : Nat → Nat) : Prop :=
  ∀ x, x < c → K x ≠ 2 → (pa x = 0 ∧ dp x = 0 ∧ ∀ s, ¬ sn_enc oa ca s x) ∨
    (1 ≤ pa x ∧ pa x ≤ 9 ∧ sn_enc oa ca (pa x) x ∧ dp x = dp (oa (pa x)) + 1 ∧ dp x ≤ 4 ∧ K x < 3 ∧ ∀ t, sn_enc oa ca t x → t = pa x ∨ sn_enc oa ca t (oa (pa x)))
def sn_PI (c d : Nat) (st K : Nat → Nat) (V : Nat → Int32) (S oa ca sg dp pa : Nat → Nat) : Prop :=
  c < 1000 ∧ sn_I2 c K sg ∧ sn_IV c K S V ∧ sn_IA c K S oa ca ∧ sn_IB c K S oa ca ∧ sn_IC c d st oa ca dp ∧ sn_ID oa ca ∧ sn_IE c K oa ca dp pa
theorem sn_PI0 : sn_PI 0 0 (fun _ => 0) (fun _ => 0) (fun _ => 0) (fun _ => 0) (fun _ => 1000) (fun _ => 1000) (fun _ => 0) (fun _ => 0) (fun _ => 0) := by
  refine ⟨by omega, ⟨rfl, fun x h => absurd h (by omega)⟩, fun x h => absurd h (by omega), fun s => Or.inl ⟨rfl, rfl⟩, fun x h => absurd h (by omega),
    ⟨fun k h => absurd h (by omega), fun k l h1 h2 => absurd h2 (by omega), fun s _ h => ?_⟩, fun s t h1 h2 h3 => ?_, fun x h => absurd h (by omega)⟩
  · exact absurd h (by simp)
  · exact absurd h3 (by simp)
theorem sn_a2 {c k e : Nat} {K sg : Nat → Nat} (h : sn_I2 c K sg) (he : e = if k = 2 then 0 else 1) : sn_I2 (c + 1) (sn_u K c k) (sn_u sg (c + 1) (sg c + e)) := by
  refine ⟨by rw [sn_un (by omega)]; exact h.1, fun x hx => ?_⟩
  by_cases z : x = c
  · rw [z, sn_us, sn_us, sn_un (by omega), he]
  · rw [sn_un (j := x + 1) (by omega), sn_un (j := x) (by omega), sn_un (j := x) (by omega)]; exact h.2 x (by omega)
theorem sn_aV {c k s : Nat} {v : Int32} {K S : Nat → Nat} {V : Nat → Int32} (h : sn_IV c K S V) (hv : k ≠ 0 → v = nI s) : sn_IV (c + 1) (sn_u K c k) (sn_u S c s) (upd V c v) := by
  intro x hx
  by_cases z : x = c
  · rw [z, sn_us, sn_us, pk_us]; exact hv
  · rw [sn_un z, sn_un z, pk_un z]; exact h x (by omega)
theorem sn_aA {c k s' : Nat} {K S oa ca : Nat → Nat} (h : sn_IA c K S oa ca) : sn_IA (c + 1) (sn_u K c k) (sn_u S c s') oa ca := by
  intro s
  rcases h s with a | ⟨a1, a2, a3, a4, a5⟩ | ⟨a1, a2, a3, a4, a5, a6⟩ | ⟨a1, a2, a3, a4, a5, a6, a7, a8⟩
  · exact Or.inl a
  · have z : oa s ≠ c := by omega
    rw [sn_un z, sn_un z]
    exact Or.inr (Or.inl ⟨a1, by omega, a3, a4, a5⟩)
  · have z : oa s ≠ c := by omega
    rw [sn_un z, sn_un z]
    exact Or.inr (Or.inr (Or.inl ⟨a1, a2, by omega, a4, a5, a6⟩))
  · have z : oa s ≠ c := by omega
    have y : ca s ≠ c := by omega
    rw [sn_un z, sn_un z, sn_un y, sn_un y]
    exact Or.inr (Or.inr (Or.inr ⟨a1, a2, a3, by omega, a5, a6, a7, a8⟩))
theorem sn_oE {c : Nat} {K K' oa ca oa' ca' dp dp' pa pa' : Nat → Nat} (hE : sn_IE c K oa ca dp pa) (ho : ∀ s, oa s < c → oa' s = oa s)
    (he : ∀ s x, x < c → (sn_enc oa' ca' s x ↔ sn_enc oa ca s x)) (hK : ∀ x, x < c → K' x = K x) (hdp : ∀ x, x < c → dp' x = dp x) (hpa : ∀ x, x < c → pa' x = pa x) : sn_IE c K' oa' ca' dp' pa' := by
  intro x hx hk
  rw [hK x hx] at hk
  rw [hK x hx, hdp x hx, hpa x hx]
  rcases hE x hx hk with ⟨a, b, e⟩ | ⟨a1, a2, a3, a4, a5, a6, a7⟩
  · exact Or.inl ⟨a, b, fun s hs => e s ((he s x hx).mp hs)⟩
  · have q : oa (pa x) < c := Nat.lt_trans a3.1 hx
    rw [ho _ q, hdp _ q]
    refine Or.inr ⟨a1, a2, (he _ x hx).mpr a3, a4, a5, a6, fun t ht => ?_⟩
    rcases a7 t ((he t x hx).mp ht) with e | e
    · exact Or.inl e
    · exact Or.inr ((he t _ q).mpr e)
theorem sn_aE {c d k : Nat} {st K oa ca oa' ca' dp pa : Nat → Nat} (hE : sn_IE c K oa ca dp pa) (hC : sn_IC c d st oa ca dp) (ho : ∀ s, oa s < c → oa' s = oa s)
    (he : ∀ s x, x < c → (sn_enc oa' ca' s x ↔ sn_enc oa ca s x)) (hn : ∀ s, sn_enc oa' ca' s c → 1 ≤ s ∧ oa s < c ∧ ca s = 1000)
    (hq : ∀ s, 1 ≤ s → ca s = 1000 → oa s < c → ca' s = 1000) (hk : k < 3 ∨ d = 0) (hd : d ≤ 4) (hc : c < 1000) :
    sn_IE (c + 1) (sn_u K c k) oa' ca' (sn_u dp c d) (sn_u pa c (sn_top d st)) := by
  have old := sn_oE (K' := sn_u K c k) (oa' := oa') (ca' := ca') (dp' := sn_u dp c d) (pa' := sn_u pa c (sn_top d st)) hE ho he (fun x hx => sn_un (by omega)) (fun x hx => sn_un (by omega)) (fun x hx => sn_un (by omega))
  intro x hx hK
  by_cases z : x < c
  · exact old x z hK
  · have z : x = c := by omega
    rw [z]
    simp only [sn_us]
    by_cases d0 : d = 0
    · refine Or.inl ⟨by unfold sn_top; rw [if_pos d0], d0, fun s hs => ?_⟩
      have q := hn s hs
      obtain ⟨l, hl, _⟩ := hC.2.2 s q.1 q.2.1 q.2.2
      omega
    · have et : sn_top d st = st (d - 1) := by unfold sn_top; rw [if_neg d0]
      have hp := hC.1 (d - 1) (by omega)
      have eo := ho _ hp.2.2.1
      rw [et, eo, sn_un (by omega : oa (st (d - 1)) ≠ c)]
      refine Or.inr ⟨hp.1, hp.2.1, ⟨by rw [eo]; exact hp.2.2.1, by rw [hq _ hp.1 hp.2.2.2.1 hp.2.2.1]; exact hc⟩, by omega, hd, by omega, fun t ht => ?_⟩
      have q := hn t ht
      obtain ⟨l, hl, e⟩ := hC.2.2 t q.1 q.2.1 q.2.2
      by_cases y : l = d - 1
      · exact Or.inl (by rw [e, y])
      · have o2 := hC.2.1 l (d - 1) (by omega) (by omega)
        refine Or.inr ⟨by rw [ho _ q.2.1, e]; exact o2, ?_⟩
        rw [hq t q.1 q.2.2 q.2.1]
        omega
/-- which stops stand round the next item: the open ones -/
theorem sn_nxt {c : Nat} {K S oa ca : Nat → Nat} (h : sn_IA c K S oa ca) (hc : c < 1000) {s : Nat} (e : sn_enc oa ca s c) : 1 ≤ s ∧ oa s < c ∧ ca s = 1000 := by
  have e1 := e.1
  have e2 := e.2
  rcases h s with a | a | a | a <;> omega
theorem sn_oac {c : Nat} {K S oa ca : Nat → Nat} (h : sn_IA c K S oa ca) (s : Nat) : oa s = 1000 ∨ oa s < c := by
  rcases h s with a | a | a | a <;> omega
theorem sn_cac {c : Nat} {K S oa ca : Nat → Nat} (h : sn_IA c K S oa ca) (s : Nat) : ca s = 1000 ∨ ca s < c := by
  rcases h s with a | a | a | a <;> omega
/-- a literal or a mirror -/
theorem sn_Pl {c d k s : Nat} {v : Int32} {st K : Nat → Nat} {V : Nat → Int32} {S oa ca sg dp pa : Nat → Nat} (h : sn_PI c d st K V S oa ca sg dp pa) (hc : c < 900) (hd : d ≤ 4)
    (hk : (k = 0 ∧ s = 0) ∨ (4 ≤ k ∧ k ≤ 7 ∧ d = 0 ∧ 1 ≤ s ∧ s ≤ 9 ∧ oa s < c ∧ v = nI s)) :
    sn_PI (c + 1) d st (sn_u K c k) (upd V c v) (sn_u S c s) oa ca (sn_u sg (c + 1) (sg c + 1)) (sn_u dp c d) (sn_u pa c (sn_top d st)) := by
  obtain ⟨h0, h2, hV, hA, hB, hC, hD, hE⟩ := h
  refine ⟨by omega, sn_a2 h2 (by rw [if_neg (by omega)]), sn_aV hV (fun z => ?_), sn_aA hA, fun x hx => ?_, ⟨fun l hl => ?_, hC.2.1, fun t h1 h3 h4 => ?_⟩, hD, ?_⟩
  · rcases hk with y | y
    · omega
    · exact y.2.2.2.2.2.2
  · by_cases z : x = c
    · rw [z, sn_us, sn_us]
      rcases hk with ⟨y1, y2⟩ | ⟨y1, y2, y3, y4, y5, y6, y7⟩
      · exact Or.inl ⟨y1, y2⟩
      · exact Or.inr (Or.inr (Or.inr (Or.inr ⟨y1, y2, y4, y5, y6⟩)))
    · rw [sn_un z, sn_un z]; exact hB x (by omega)
  · have q := hC.1 l hl
    rw [sn_un (by omega)]
    exact ⟨q.1, q.2.1, by omega, q.2.2.2.1, q.2.2.2.2⟩
  · have q := sn_oac hA t
    exact hC.2.2 t h1 (by omega) h4
  · exact sn_aE hE hC (fun _ _ => rfl) (fun _ _ _ => Iff.rfl) (fun s e => sn_nxt hA h0 e) (fun _ _ e _ => e) (by omega) hd h0
/-- the final stop -/
theorem sn_Pf {c : Nat} {v : Int32} {st K : Nat → Nat} {V : Nat → Int32} {S oa ca sg dp pa : Nat → Nat} (h : sn_PI c 0 st K V S oa ca sg dp pa) (hc : c < 900)
    (h00 : oa 0 = 1000) (hv : v = nI 0) :
    sn_PI (c + 1) 0 st (sn_u K c 3) (upd V c v) (sn_u S c 0) (sn_u oa 0 c) (sn_u ca 0 c) (sn_u sg (c + 1) (sg c + 1)) (sn_u dp c 0) (sn_u pa c (sn_top 0 st)) := by
  obtain ⟨h0, h2, hV, hA, hB, hC, hD, hE⟩ := h
  have c0 : ca 0 = 1000 := by rcases hA 0 with a | a | a | a <;> omega
  have ho : ∀ s, oa s < c → sn_u oa 0 c s = oa s := fun s hs => sn_un (fun z => by rw [z] at hs; omega)
  have he : ∀ s x, x < c → (sn_enc (sn_u oa 0 c) (sn_u ca 0 c) s x ↔ sn_enc oa ca s x) := by
    intro s x hx
    unfold sn_enc
    by_cases z : s = 0
    · rw [z, sn_us, sn_us]; omega
    · rw [sn_un z, sn_un z]
  refine ⟨by omega, sn_a2 h2 (by rw [if_neg (by omega)]), sn_aV hV (fun _ => hv), fun s => ?_, fun x hx => ?_, ⟨fun l hl => absurd hl (by omega), fun l m h1 h3 => absurd h3 (by omega), fun t h1 h3 h4 => ?_⟩, fun s t h1 h3 h4 => ?_, ?_⟩
  · by_cases z : s = 0
    · rw [z, sn_us, sn_us, sn_us, sn_us]
      exact Or.inr (Or.inl ⟨rfl, by omega, rfl, rfl, rfl⟩)
    · have q := sn_aA (k := 3) (s' := 0) hA s
      rw [sn_un z, sn_un (k := 0) z]; exact q
  · by_cases z : x = c
    · rw [z, sn_us, sn_us, sn_us]
      exact Or.inr (Or.inr (Or.inr (Or.inl ⟨rfl, rfl, rfl⟩)))
    · rw [sn_un z, sn_un z]
      rcases hB x (by omega) with a | ⟨a1, a2, a3, a4⟩ | ⟨a1, a2, a3, a4⟩ | ⟨a1, a2, a3⟩ | ⟨a1, a2, a3, a4, a5⟩
      · exact Or.inl a
      · exact Or.inr (Or.inl ⟨a1, a2, a3, by rw [sn_un (by omega)]; exact a4⟩)
      · exact Or.inr (Or.inr (Or.inl ⟨a1, a2, a3, by rw [sn_un (by omega)]; exact a4⟩))
      · omega
      · exact Or.inr (Or.inr (Or.inr (Or.inr ⟨a1, a2, a3, a4, by rw [sn_un (by omega)]; exact a5⟩)))
  · rw [sn_un (by omega)] at h3 h4
    have q := sn_oac hA t
    exact hC.2.2 t h1 (by omega) h4
  · have qs := sn_oac hA s
    have qt := sn_oac hA t
    have ct := sn_cac hA t
    by_cases zs : s = 0
    · rw [zs, sn_us] at h1
      rw [zs, sn_us] at h3
      omega
    · rw [sn_un zs] at h1
      rw [sn_un zs] at h3
      rw [sn_un zs]
      by_cases zt : t = 0
      · rw [zt, sn_us] at h1
        rw [zt, sn_us] at h3
        rw [zt, sn_us]; omega
      · rw [sn_un zt] at h1 h4
        rw [sn_un zt] at h3
        rw [sn_un zt]
        exact hD s t h1 h3 h4
  · refine sn_aE hE hC ho he (fun s e => ?_) (fun s h1 e _ => ?_) (Or.inr rfl) (by omega) h0
    · by_cases z : s = 0
      · have e1 := e.1
        rw [z, sn_us] at e1
        omega
      · have e1 := e.1
        have e2 := e.2
        rw [sn_un z] at e1 e2
        exact sn_nxt hA h0 ⟨e1, e2⟩
    · rw [sn_un (by omega)]; exact e
/-- an open stop -/
theorem sn_Po {c d s0 : Nat} {st K : Nat → Nat} {V : Nat → Int32} {S oa ca sg dp pa : Nat → Nat} (h : sn_PI c d st K V S oa ca sg dp pa) (hc : c < 900) (hd : d ≤ 4)
    (h1 : 1 ≤ s0) (h9 : s0 ≤ 9) (hs : oa s0 = 1000) :
    sn_PI (c + 1) (d + 1) (sn_u st d s0) (sn_u K c 1) (upd V c (nI s0)) (sn_u S c s0) (sn_u oa s0 c) ca (sn_u sg (c + 1) (sg c + 1)) (sn_u dp c d) (sn_u pa c (sn_top d st)) := by
  obtain ⟨h0, h2, hV, hA, hB, hC, hD, hE⟩ := h
  have c0 : ca s0 = 1000 := by rcases hA s0 with a | a | a | a <;> omega
  have ho : ∀ s, oa s < c → sn_u oa s0 c s = oa s := fun s hs' => sn_un (fun z => by rw [z] at hs'; omega)
  have he : ∀ s x, x < c → (sn_enc (sn_u oa s0 c) ca s x ↔ sn_enc oa ca s x) := by
    intro s x hx
    unfold sn_enc
    by_cases z : s = s0
    · rw [z, sn_us]; omega
    · rw [sn_un z]
  refine ⟨by omega, sn_a2 h2 (by rw [if_neg (by omega)]), sn_aV hV (fun _ => rfl), fun s => ?_, fun x hx => ?_, ⟨fun l hl => ?_, fun l m hlm hm => ?_, fun t ht h3 h4 => ?_⟩, fun s t hst h3 h4 => ?_, ?_⟩
  · by_cases z : s = s0
    · rw [z, sn_us, sn_us, sn_us]
      exact Or.inr (Or.inr (Or.inl ⟨h1, h9, by omega, rfl, rfl, c0⟩))
    · have q := sn_aA (k := 1) (s' := s0) hA s
      rw [sn_un (k := s0) z]; exact q
  · by_cases z : x = c
    · rw [z, sn_us, sn_us, sn_us]
      exact Or.inr (Or.inl ⟨rfl, h1, h9, rfl⟩)
    · rw [sn_un z, sn_un z]
      have k0 : ∀ s, oa s < c → s ≠ s0 := fun s q z => by rw [z] at q; omega
      rcases hB x (by omega) with a | ⟨a1, a2, a3, a4⟩ | ⟨a1, a2, a3, a4⟩ | ⟨a1, a2, a3⟩ | ⟨a1, a2, a3, a4, a5⟩
      · exact Or.inl a
      · exact Or.inr (Or.inl ⟨a1, a2, a3, by rw [sn_un (k0 _ (by omega))]; exact a4⟩)
      · exact Or.inr (Or.inr (Or.inl ⟨a1, a2, a3, a4⟩))
      · exact Or.inr (Or.inr (Or.inr (Or.inl ⟨a1, a2, by rw [sn_un (by omega)]; exact a3⟩)))
      · exact Or.inr (Or.inr (Or.inr (Or.inr ⟨a1, a2, a3, a4, by rw [sn_un (k0 _ (by omega))]; exact a5⟩)))
  · by_cases z : l = d
    · rw [z, sn_us, sn_us, sn_us]
      exact ⟨h1, h9, by omega, c0, rfl⟩
    · have q := hC.1 l (by omega)
      rw [sn_un z, ho _ q.2.2.1, sn_un (by omega)]
      exact ⟨q.1, q.2.1, by omega, q.2.2.2.1, q.2.2.2.2⟩
  · have ql := hC.1 l (by omega)
    rw [sn_un (by omega : l ≠ d), ho _ ql.2.2.1]
    by_cases z : m = d
    · rw [z, sn_us, sn_us]; exact ql.2.2.1
    · have qm := hC.1 m (by omega)
      rw [sn_un z, ho _ qm.2.2.1]
      exact hC.2.1 l m hlm (by omega)
  · by_cases z : t = s0
    · exact ⟨d, by omega, by rw [sn_us]; exact z⟩
    · rw [sn_un z] at h3
      have q := sn_oac hA t
      obtain ⟨l, hl, e⟩ := hC.2.2 t ht (by omega) h4
      exact ⟨l, by omega, by rw [sn_un (by omega)]; exact e⟩
  · have qs := sn_oac hA s
    have qt := sn_oac hA t
    have cs := sn_cac hA s
    have ct := sn_cac hA t
    by_cases zs : s = s0
    · rw [zs, sn_us] at hst
      by_cases zt : t = s0
      · rw [zt, sn_us] at hst; omega
      · rw [sn_un zt] at hst h4; omega
    · rw [sn_un zs] at hst
      by_cases zt : t = s0
      · rw [zt, sn_us] at hst h3
        rw [zt]
        omega
      · rw [sn_un zt] at hst h3 h4
        exact hD s t hst h3 h4
  · refine sn_aE hE hC ho he (fun s e => ?_) (fun s _ e _ => e) (by omega) hd h0
    by_cases z : s = s0
    · have e1 := e.1
      rw [z, sn_us] at e1
      omega
    · have e1 := e.1
      rw [sn_un z] at e1
      exact sn_nxt hA h0 ⟨e1, e.2⟩
/-- the innermost open stop closes -/
theorem sn_Pc {c d : Nat} {st K : Nat → Nat} {V : Nat → Int32} {S oa ca sg dp pa : Nat → Nat} (h : sn_PI c (d + 1) st K V S oa ca sg dp pa) (hc : c < 900) :
    sn_PI (c + 1) d st (sn_u K c 2) (upd V c (nI (st d))) (sn_u S c (st d)) oa (sn_u ca (st d) c) (sn_u sg (c + 1) (sg c + 0)) dp pa := by
  obtain ⟨h0, h2, hV, hA, hB, hC, hD, hE⟩ := h
  have q0 := hC.1 d (by omega)
  have a0 : K (oa (st d)) = 1 ∧ S (oa (st d)) = st d := by
    rcases hA (st d) with a | a | a | a
    · omega
    · omega
    · exact ⟨a.2.2.2.1, a.2.2.2.2.1⟩
    · omega
  have he : ∀ s x, x < c → (sn_enc oa (sn_u ca (st d) c) s x ↔ sn_enc oa ca s x) := by
    intro s x hx
    unfold sn_enc
    by_cases z : s = st d
    · rw [z, sn_us]; omega
    · rw [sn_un z]
  have ne : ∀ l, l < d → st l ≠ st d := fun l hl z => by
    have q := hC.2.1 l d hl (by omega)
    rw [z] at q
    omega
  refine ⟨by omega, sn_a2 h2 (by rw [if_pos rfl]), sn_aV hV (fun _ => rfl), fun s => ?_, fun x hx => ?_, ⟨fun l hl => ?_, fun l m hlm hm => hC.2.1 l m hlm (by omega), fun t ht h3 h4 => ?_⟩, fun s t hst h3 h4 => ?_, ?_⟩
  · by_cases z : s = st d
    · rw [z, sn_us, sn_us, sn_us, sn_un (by omega), sn_un (by omega)]
      exact Or.inr (Or.inr (Or.inr ⟨q0.1, q0.2.1, by omega, by omega, a0.1, a0.2, rfl, rfl⟩))
    · have q := sn_aA (k := 2) (s' := st d) hA s
      rw [sn_un (k := st d) z]; exact q
  · by_cases z : x = c
    · rw [z, sn_us, sn_us, sn_us]
      exact Or.inr (Or.inr (Or.inl ⟨rfl, q0.1, q0.2.1, rfl⟩))
    · rw [sn_un z, sn_un z]
      rcases hB x (by omega) with a | ⟨a1, a2, a3, a4⟩ | ⟨a1, a2, a3, a4⟩ | ⟨a1, a2, a3⟩ | ⟨a1, a2, a3, a4, a5⟩
      · exact Or.inl a
      · exact Or.inr (Or.inl ⟨a1, a2, a3, a4⟩)
      · exact Or.inr (Or.inr (Or.inl ⟨a1, a2, a3, by rw [sn_un (fun y => by rw [y] at a4; omega)]; exact a4⟩))
      · exact Or.inr (Or.inr (Or.inr (Or.inl ⟨a1, a2, a3⟩)))
      · exact Or.inr (Or.inr (Or.inr (Or.inr ⟨a1, a2, a3, a4, a5⟩)))
  · have q := hC.1 l (by omega)
    rw [sn_un (ne l hl)]
    exact ⟨q.1, q.2.1, by omega, q.2.2.2.1, q.2.2.2.2⟩
  · by_cases z : t = st d
    · rw [z, sn_us] at h4; omega
    · rw [sn_un z] at h4
      have q := sn_oac hA t
      obtain ⟨l, hl, e⟩ := hC.2.2 t ht (by omega) h4
      refine ⟨l, ?_, e⟩
      by_cases y : l = d
      · rw [y] at e; exact absurd e z
      · omega
  · have qt := sn_oac hA t
    have ct := sn_cac hA t
    have cs := sn_cac hA s
    by_cases zs : s = st d
    · rw [zs, sn_us] at h3
      rw [zs] at hst
      rw [zs, sn_us]
      by_cases zt : t = st d
      · rw [zt] at hst; omega
      · rw [sn_un zt]
        rcases ct with y | y
        · have t1 : 1 ≤ t := by rcases hA t with a | a | a | a <;> omega
          obtain ⟨l, hl, e⟩ := hC.2.2 t t1 (by omega) y
          by_cases w : l = d
          · rw [w] at e; exact absurd e zt
          · have o2 := hC.2.1 l d (by omega) (by omega)
            rw [← e] at o2
            omega
        · omega
    · rw [sn_un zs] at h3
      rw [sn_un zs]
      have o2 := hD s t hst h3 h4
      by_cases zt : t = st d
      · rw [zt, sn_us]
        rw [zt] at o2
        omega
      · rw [sn_un zt]; exact o2
  · have old := sn_oE (K' := sn_u K c 2) (oa' := oa) (ca' := sn_u ca (st d) c) (dp' := dp) (pa' := pa) hE (fun _ _ => rfl) he (fun x hx => sn_un (by omega)) (fun x hx => rfl) (fun x hx => rfl)
    intro x hx hk
    by_cases z : x = c
    · rw [z, sn_us] at hk; exact absurd rfl hk
    · exact old x (by omega) hk
end SNB
