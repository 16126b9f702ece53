theorem Bds.cg {F F' : FT} {G G' : GT} (h : Bds F G) (hF : ∀ k, k = 0 ∨ k = 2 ∨ k = 3 ∨ k = 6 ∨ k = 7 ∨ k = 8 → F' k = F k) (hG : ∀ k, k = 12 ∨ k = 13 ∨ k = 16 ∨ k = 17 ∨ k = 18 ∨ k = 19 ∨ k = 24 ∨ k = 25 ∨ k = 26 ∨ k = 28 ∨ 300 ≤ k → G' k = G k) : Bds F' G' := by
  unfold Bds at h ⊢
  rw [hF 0 (by omega), hF 2 (by omega), hF 3 (by omega), hF 6 (by omega), hF 7 (by omega), hF 8 (by omega), hG 12 (by omega), hG 13 (by omega), hG 16 (by omega), hG 17 (by omega), hG 18 (by omega), hG 24 (by omega), hG 25 (by omega), hG 26 (by omega), hG 28 (by omega)]
  refine ⟨h.1, h.2.1, h.2.2.1, h.2.2.2.1, h.2.2.2.2.1, h.2.2.2.2.2.1, h.2.2.2.2.2.2.1, h.2.2.2.2.2.2.2.1, h.2.2.2.2.2.2.2.2.1, h.2.2.2.2.2.2.2.2.2.1, h.2.2.2.2.2.2.2.2.2.2.1, h.2.2.2.2.2.2.2.2.2.2.2.1, h.2.2.2.2.2.2.2.2.2.2.2.2.1, h.2.2.2.2.2.2.2.2.2.2.2.2.2.1, fun l k hl => ?_, ?_⟩
  · rw [hG (l + 300) (by omega)]
    exact h.2.2.2.2.2.2.2.2.2.2.2.2.2.2.1 l k hl
  · have hh := h.2.2.2.2.2.2.2.2.2.2.2.2.2.2.2
    unfold Hnd at hh ⊢
    rw [hF 6 (by omega), hF 7 (by omega), hG 19 (by omega)]
    exact hh
theorem Mon.cg {F F' : FT} {G G' : GT} (h : Mon F G) (hF : ∀ k, k = 3 ∨ k = 4 ∨ k = 5 ∨ k = 17 → F' k = F k) (hG : ∀ k, k = 11 ∨ k = 15 ∨ k = 30 → G' k = G k) : Mon F' G' := by
  unfold Mon at h ⊢
  rw [hF 3 (by omega), hF 4 (by omega), hF 5 (by omega), hF 17 (by omega), hG 11 (by omega), hG 15 (by omega), hG 30 (by omega)]
  exact h
theorem EQ.sF {FX : FT} {GX : GT} {FM : FT} {GM : GT} (h : EQ FX GX FM GM) (k : Nat) (v : Int32) : EQ (sU FX k v) GX (sU FM k v) GM := by
  refine ⟨fun j hj => ?_, h.2⟩
  by_cases e : j = k
  · subst e; rw [sU_same, sU_same]
  · rw [sU_ne _ _ e, sU_ne _ _ e]; exact h.1 j hj
theorem EQ.sX {FX : FT} {GX : GT} {FM : FT} {GM : GT} (h : EQ FX GX FM GM) (k : Nat) (hk : 9 ≤ k) (v : Int32) : EQ (sU FX k v) GX FM GM := ⟨fun j hj => by rw [sU_ne _ _ (by omega)]; exact h.1 j hj, h.2⟩
theorem EQ.sM {FX : FT} {GX : GT} {FM : FT} {GM : GT} (h : EQ FX GX FM GM) (k : Nat) (hk : 9 ≤ k) (v : Int32) : EQ FX GX (sU FM k v) GM := ⟨fun j hj => by rw [sU_ne _ _ (by omega)]; exact h.1 j hj, h.2⟩
theorem EQ.gG {FX : FT} {GX : GT} {FM : FT} {GM : GT} (h : EQ FX GX FM GM) (k : Nat) (h1 : 10 ≤ k) (h2 : k < 32) (h3 : k ≠ 18) (h4 : k ≠ 16) (h5 : k ≠ 17) (f : Nat → Int32) : EQ FX (gU GX k f) FM (gU GM k f) := by
  obtain ⟨a, b, c, d, e, g, i⟩ := h
  refine ⟨a, fun j q1 q2 q3 => ?_, ?_, ?_, ?_, ?_, ?_⟩
  · by_cases e : j = k
    · subst e; rw [gU_same, gU_same]
    · rw [gU_ne _ _ e, gU_ne _ _ e]; exact b j q1 q2 q3
  · rw [gU_ne _ _ (by omega), gU_ne _ _ (by omega)]; exact c
  · intro l k hl hk
    rw [gU_ne _ _ (by omega), gU_ne _ _ (by omega)]; exact d l k hl hk
  · intro l k hl hk
    rw [gU_ne _ _ (by omega), gU_ne _ _ (by omega)]; exact e l k hl hk
  · intro l k hl hk
    rw [gU_ne _ _ (by omega), gU_ne _ _ (by omega)]; exact g l k hl hk
  · rw [gU_ne _ _ (by omega), gU_ne _ _ (by omega), gU_ne _ _ (by omega), gU_ne _ _ (by omega)]; exact i
theorem upd_e {f : Nat → Int32} {k j : Nat} {x : Int32} : upd f k x j = if j = k then x else f j := rfl
theorem EQ.fo {FX : FT} {GX : GT} {FM : FT} {GM : GT} (h : EQ FX GX FM GM) {z f : Nat} (hz : z < 40) (hf : f < 6) (v : Int32) : EQ FX (gU GX (z + 100) (upd (GX (z + 100)) f v)) FM (gU GM 52 (upd (GM 52) (6 * z + f) v)) := by
  obtain ⟨a, b, c, d, e, g, i⟩ := h
  refine ⟨a, fun j q1 q2 q3 => ?_, ?_, ?_, ?_, ?_, ?_⟩
  · rw [gU_ne _ _ (by omega), gU_ne _ _ (by omega)]; exact b j q1 q2 q3
  · rw [gU_ne _ _ (by omega), gU_ne _ _ (by omega)]; exact c
  · intro l k hl hk
    rw [gU_ne _ _ (by omega), gU_ne _ _ (by omega)]; exact d l k hl hk
  · intro l k hl hk
    rw [gU_same]
    by_cases hlz : l = z
    · subst hlz
      rw [gU_same, upd_e, upd_e]
      by_cases hkf : k = f
      · rw [if_pos (by omega), if_pos hkf]
      · rw [if_neg (by omega), if_neg hkf]; exact e l k hl hk
    · rw [gU_ne _ _ (by omega), upd_e, if_neg (by omega)]; exact e l k hl hk
  · intro l k hl hk
    rw [gU_ne _ _ (by omega), gU_ne _ _ (by omega)]; exact g l k hl hk
  · rw [gU_ne _ _ (by omega), gU_ne _ _ (by omega), gU_ne _ _ (by omega), gU_ne _ _ (by omega)]; exact i
theorem EQ.si {FX : FT} {GX : GT} {FM : FT} {GM : GT} (h : EQ FX GX FM GM) {z f : Nat} (hz : z < 40) (hf : f < 6) (v : Int32) : EQ FX (gU GX (z + 200) (upd (GX (z + 200)) f v)) FM (gU GM 53 (upd (GM 53) (6 * z + f) v)) := by
  obtain ⟨a, b, c, d, e, g, i⟩ := h
  refine ⟨a, fun j q1 q2 q3 => ?_, ?_, ?_, ?_, ?_, ?_⟩
  · rw [gU_ne _ _ (by omega), gU_ne _ _ (by omega)]; exact b j q1 q2 q3
  · rw [gU_ne _ _ (by omega), gU_ne _ _ (by omega)]; exact c
  · intro l k hl hk
    rw [gU_ne _ _ (by omega), gU_ne _ _ (by omega)]; exact d l k hl hk
  · intro l k hl hk
    rw [gU_ne _ _ (by omega), gU_ne _ _ (by omega)]; exact e l k hl hk
  · intro l k hl hk
    rw [gU_same]
    by_cases hlz : l = z
    · subst hlz
      rw [gU_same, upd_e, upd_e]
      by_cases hkf : k = f
      · rw [if_pos (by omega), if_pos hkf]
      · rw [if_neg (by omega), if_neg hkf]; exact g l k hl hk
    · rw [gU_ne _ _ (by omega), upd_e, if_neg (by omega)]; exact g l k hl hk
  · rw [gU_ne _ _ (by omega), gU_ne _ _ (by omega), gU_ne _ _ (by omega), gU_ne _ _ (by omega)]; exact i
/-- both sides lead horse h: holder a, title b, apart (where they differ afterwards) the same -/
theorem EQ.ld {FX : FT} {GX : GT} {FM : FT} {GM : GT} {GX' GM' : GT} (h : EQ FX GX FM GM) {z : Nat} {a b : Int32} (hX : ∀ k, k ≠ 16 → k ≠ 17 → k ≠ 18 → GX' k = GX k) (hM : ∀ k, k ≠ 16 → k ≠ 17 → k ≠ 18 → GM' k = GM k) (x16 : GX' 16 = upd (GX 16) z a) (x17 : GX' 17 = upd (GX 17) z b) (m16 : GM' 16 = upd (GM 16) z a) (m17 : GM' 17 = upd (GM 17) z b) (x18 : ∀ j, j ≠ z → GX' 18 j = GX 18 j) (m18 : ∀ j, j ≠ z → GM' 18 j = GM 18 j) (hz : a ≠ b → GM' 18 z = GX' 18 z) : EQ FX GX' FM GM' := by
  obtain ⟨q1, q2, c, d, e, g, i⟩ := h
  refine ⟨q1, fun j j1 j2 j3 => ?_, ?_, ?_, ?_, ?_, ?_⟩
  · by_cases e16 : j = 16
    · subst e16; rw [x16, m16, q2 16 (by omega) (by omega) (by omega)]
    by_cases e17 : j = 17
    · subst e17; rw [x17, m17, q2 17 (by omega) (by omega) (by omega)]
    rw [hX _ e16 e17 j3, hM _ e16 e17 j3]; exact q2 j j1 j2 j3
  · rw [hX _ (by omega) (by omega) (by omega), hM _ (by omega) (by omega) (by omega)]; exact c
  · intro l k hl hk
    rw [hX _ (by omega) (by omega) (by omega), hM _ (by omega) (by omega) (by omega)]; exact d l k hl hk
  · intro l k hl hk
    rw [hX _ (by omega) (by omega) (by omega), hM _ (by omega) (by omega) (by omega)]; exact e l k hl hk
  · intro l k hl hk
    rw [hX _ (by omega) (by omega) (by omega), hM _ (by omega) (by omega) (by omega)]; exact g l k hl hk
  · intro j hj hne
    rw [x16, x17, upd_e, upd_e] at hne
    by_cases e : j = z
    · subst e
      rw [if_pos rfl, if_pos rfl] at hne
      exact hz hne
    · rw [if_neg e, if_neg e] at hne
      rw [x18 j e, m18 j e]; exact i j hj hne
theorem gU_c {G : GT} {a b : Nat} {f g : Nat → Int32} (h : a ≠ b) : gU (gU G a f) b g = gU (gU G b g) a f := by
  funext k
  by_cases h1 : k = a
  · subst h1; rw [gU_ne _ _ h, gU_same, gU_same]
  by_cases h2 : k = b
  · subst h2; rw [gU_same, gU_ne _ _ h1, gU_same]
  rw [gU_ne _ _ h1, gU_ne _ _ h2, gU_ne _ _ h2, gU_ne _ _ h1]
theorem sU_c {F : FT} {a b : Nat} {f g : Int32} (h : a ≠ b) : sU (sU F a f) b g = sU (sU F b g) a f := by
  funext k
  by_cases h1 : k = a
  · subst h1; rw [sU_ne _ _ h, sU_same, sU_same]
  by_cases h2 : k = b
  · subst h2; rw [sU_same, sU_ne _ _ h1, sU_same]
  rw [sU_ne _ _ h1, sU_ne _ _ h2, sU_ne _ _ h2, sU_ne _ _ h1]

def EQA (FX : FT) (GX : GT) (FM : FT) (GM : GT) : Prop := (∀ k, k < 9 → k ≠ 7 → FM k = FX k) ∧ (∀ k, 10 ≤ k → k < 32 → (k < 16 ∨ 22 < k) → GM k = GX k)
theorem EQ.a {FX : FT} {GX : GT} {FM : FT} {GM : GT} (h : EQ FX GX FM GM) : EQA FX GX FM GM := ⟨fun k h1 _ => h.1 k h1, fun k h1 h2 h3 => h.2.1 k h1 h2 (by omega)⟩
/-- what a lead of horse z does to who holds it, who has the title, since when apart, the hands -/
def LdB (F : FT) (G : GT) (z : Nat) (a b how : Int32) (F' : FT) (G' : GT) : Prop :=
  G' 16 = upd (G 16) z a ∧ G' 17 = upd (G 17) z b ∧ (∀ j, j ≠ z → G' 18 j = G 18 j) ∧ (a ≠ b → G' 18 z = if G 16 z = G 17 z then F 8 else G 18 z) ∧ ((F 7 = 400 ∧ F' 7 = F 7 ∧ ∀ k, 19 ≤ k → k ≤ 22 → G' k = G k) ∨ (F 7 ≠ 400 ∧ F' 7 = F 7 + 1 ∧ G' 19 = upd (G 19) (F 7).toNatClampNeg (nI z) ∧ G' 20 = upd (G 20) (F 7).toNatClampNeg a ∧ G' 21 = upd (G 21) (F 7).toNatClampNeg (F 0) ∧ G' 22 = upd (G 22) (F 7).toNatClampNeg how))
def EQB (FX : FT) (GX : GT) (FM : FT) (GM : GT) : Prop := FM 7 = FX 7 ∧ (∀ k, 16 ≤ k → k ≤ 22 → k ≠ 18 → GM k = GX k) ∧ (∀ h, h < 40 → GX 16 h ≠ GX 17 h → GM 18 h = GX 18 h)
theorem EQ.b {FX : FT} {GX : GT} {FM : FT} {GM : GT} (h : EQ FX GX FM GM) : EQB FX GX FM GM := ⟨h.1 7 (by omega), fun k h1 h2 h3 => h.2.1 k (by omega) (by omega) h3, h.2.2.2.2.2.2⟩
theorem EQ.of {FX FX' : FT} {GX GX' : GT} {FM FM' : FT} {GM GM' : GT} (h : EQ FX GX FM GM) (ha : EQA FX' GX' FM' GM') (hb : EQB FX' GX' FM' GM') (hX : ∀ k, 32 ≤ k → GX' k = GX k) (hM : ∀ k, 32 ≤ k → GM' k = GM k) : EQ FX' GX' FM' GM' := by
  obtain ⟨q1, q2, c, d, e, g, i⟩ := h
  refine ⟨fun k hk => ?_, fun k h1 h2 h3 => ?_, ?_, ?_, ?_, ?_, hb.2.2⟩
  · by_cases e : k = 7
    · subst e; exact hb.1
    · exact ha.1 k hk e
  · by_cases e : k < 16 ∨ 22 < k
    · exact ha.2 k h1 h2 e
    · exact hb.2.1 k (by omega) (by omega) h3
  · rw [hX _ (by omega), hM _ (by omega)]; exact c
  · intro l k hl hk
    rw [hX _ (by omega), hM _ (by omega)]; exact d l k hl hk
  · intro l k hl hk
    rw [hX _ (by omega), hM _ (by omega)]; exact e l k hl hk
  · intro l k hl hk
    rw [hX _ (by omega), hM _ (by omega)]; exact g l k hl hk
theorem EQB.ld {FX FX' : FT} {GX GX' : GT} {FM FM' : FT} {GM GM' : GT} {z : Nat} {a b how : Int32} (h : EQB FX GX FM GM) (h0 : FM 0 = FX 0) (h8 : FM 8 = FX 8) (hz : z < 40) (hX : LdB FX GX z a b how FX' GX') (hM : LdB FM GM z a b how FM' GM') : EQB FX' GX' FM' GM' := by
  obtain ⟨x16, x17, x18, x18z, xh⟩ := hX
  obtain ⟨m16, m17, m18, m18z, mh⟩ := hM
  obtain ⟨e7, eg, e18⟩ := h
  have g16 := eg 16 (by omega) (by omega) (by omega)
  have g17 := eg 17 (by omega) (by omega) (by omega)
  have g19 := eg 19 (by omega) (by omega) (by omega)
  have g20 := eg 20 (by omega) (by omega) (by omega)
  have g21 := eg 21 (by omega) (by omega) (by omega)
  have g22 := eg 22 (by omega) (by omega) (by omega)
  rw [g16, g17] at m18z
  rw [g16] at m16
  rw [g17] at m17
  rw [g19, g20, g21, g22, e7, h0] at mh
  refine ⟨?_, fun k h1 h2 h3 => ?_, fun j hj hne => ?_⟩
  · rcases xh with ⟨p, q, _⟩ | ⟨p, q, _⟩ <;> rcases mh with ⟨p', q', _⟩ | ⟨p', q', _⟩
    · rw [q, q']
    · exact absurd p p'
    · exact absurd p' p
    · rw [q, q']
  · rcases (by omega : k = 16 ∨ k = 17 ∨ 19 ≤ k) with rfl | rfl | h19
    · rw [x16, m16]
    · rw [x17, m17]
    · rcases xh with ⟨p, q, r⟩ | ⟨p, q, r⟩ <;> rcases mh with ⟨p', q', r'⟩ | ⟨p', q', r'⟩
      · rw [r k h19 h2, r' k h19 h2, eg k h1 h2 h3]
      · exact absurd p p'
      · exact absurd p' p
      · rcases (by omega : k = 19 ∨ k = 20 ∨ k = 21 ∨ k = 22) with rfl | rfl | rfl | rfl
        · rw [r.1, r'.1]
        · rw [r.2.1, r'.2.1]
        · rw [r.2.2.1, r'.2.2.1]
        · rw [r.2.2.2, r'.2.2.2]
  · rw [x16, x17, upd_e, upd_e] at hne
    by_cases e : j = z
    · subst e
      rw [if_pos rfl, if_pos rfl] at hne
      rw [x18z hne, m18z hne, h8]
      split
      · rfl
      · rename_i hn
        exact e18 j hz hn
    · rw [if_neg e, if_neg e] at hne
      rw [x18 j e, m18 j e]; exact e18 j hj hne
