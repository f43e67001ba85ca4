-- the reference's reader: what reading a module may change; an entry is noted
/-- arrays that loading a module writes into -/
def ldl : List Nat := [8, 9, 10, 11, 12, 19, 21, 24, 25, 26, 27, 28]
def ldF (mm nm en0 : Nat) (own A : Nat → Nat) (h : xb_H) (F : Nat → Nat → Int32) (own' A' : Nat → Nat) (h' : xb_H) (F' : Nat → Nat → Int32) : Prop :=
  zT own own' h F h' F' ∧ mB own' mm A' h' ∧ (∀ k, k ≠ 11 → k ≠ 12 → A' k = A k) ∧ (∀ a, xb_k h a ≠ 0 → a ≠ mm → (∀ k, k ∈ ldl → a ≠ A k) → F' a = F a) ∧
  (∀ j, j < 12 * nm → F' (A 8) j = F (A 8) j ∧ F' (A 9) j = F (A 9) j) ∧ (∀ j, j < 4 * nm → F' (A 10) j = F (A 10) j) ∧ (∀ j, j < en0 → F' (A' 11) j = F (A 11) j ∧ F' (A' 12) j = F (A 12) j) ∧
  (∀ a, xb_k h a ≠ 0 → a ≠ mm → xb_l h' a = xb_l h a ∧ xb_r h' a = xb_r h a ∧ xb_k h' a = xb_k h a ∧ xb_n h' a = xb_n h a) ∧ (∀ k, k ≠ 91 → xb_l h' mm k = xb_l h mm k) ∧ (∀ a, xb_k h' a = 0 → xb_k h a = 0) ∧
  ∀ k, k ∈ [11, 12] → (A' k = A k ∨ xb_k h (A' k) = 0) ∧ xb_n h (A k) ≤ xb_n h' (A' k)
def lenE (A : Nat → Nat) (h : xb_H) (len : Nat) : Prop := xb_n h (A 11) = len ∧ xb_n h (A 12) = len ∧ (len = 2048 ∨ len = 4096 ∨ len = 8192 ∨ len = 16384)
/-- room for longer rows of entries -/
def bgE (len rc rs bc bs : Nat) : Prop := rc + (16384 - len) / 1024 ≤ bc ∧ rs + 4 * (16384 - len) ≤ bs
section MR9
variable {own own' own2 : Nat → Nat} {mm nm en0 : Nat} {A A' A2 : Nat → Nat} {h h' h2 : xb_H} {F F' F2 : Nat → Nat → Int32} {v v' : Nat → Int32}
theorem ldF.rf (hB : mB own mm A h) : ldF mm nm en0 own A h F own A h F := ⟨zT.rf, hB, fun _ _ _ => rfl, fun _ _ _ _ => rfl, fun _ _ => ⟨rfl, rfl⟩, fun _ _ => rfl, fun _ _ => ⟨rfl, rfl⟩, fun _ _ _ => ⟨rfl, rfl, rfl, rfl⟩, fun _ _ => rfl, fun _ ha => ha, fun _ _ => ⟨.inl rfl, Nat.le_refl _⟩⟩
theorem ldF.tr (hB : mB own mm A h) (h1 : ldF mm nm en0 own A h F own' A' h' F') (h2' : ldF mm nm en0 own' A' h' F' own2 A2 h2 F2) : ldF mm nm en0 own A h F own2 A2 h2 F2 := by
  obtain ⟨a1, a2, a3, a4, a5, a6, a7, a8, a9, a10, a11⟩ := h1
  obtain ⟨b1, b2, b3, b4, b5, b6, b7, b8, b9, b10, b11⟩ := h2'
  refine ⟨a1.tr b1, b2, fun k k1 k2 => (b3 k k1 k2).trans (a3 k k1 k2), fun a ha hm hl => ?_, fun j hj => ?_, fun j hj => ?_, fun j hj => ?_, fun a ha hm => ?_, fun k hk => (b9 k hk).trans (a9 k hk), fun a ha => a10 a (b10 a ha), fun k hk => ?_⟩
  · have hk' := (a1.1 a ha).1
    refine (b4 a hk' hm (fun k hk e => ?_)).trans (a4 a ha hm hl)
    by_cases hc : k = 11 ∨ k = 12
    · rcases (a11 k (by rcases hc with e | e <;> subst e <;> decide)).1 with g | g
      · exact hl k hk (by rw [e, g])
      · rw [e] at ha
        exact ha g
    · exact hl k hk (by rw [e]; exact a3 k (fun e => hc (.inl e)) (fun e => hc (.inr e)))
  · obtain ⟨c1, c2⟩ := a5 j hj
    obtain ⟨d1, d2⟩ := b5 j hj
    rw [a3 8 (by decide) (by decide)] at d1
    rw [a3 9 (by decide) (by decide)] at d2
    exact ⟨d1.trans c1, d2.trans c2⟩
  · have d1 := b6 j hj
    rw [a3 10 (by decide) (by decide)] at d1
    exact d1.trans (a6 j hj)
  · obtain ⟨c1, c2⟩ := a7 j hj
    obtain ⟨d1, d2⟩ := b7 j hj
    exact ⟨d1.trans c1, d2.trans c2⟩
  · obtain ⟨c1, c2, c3, c4⟩ := a8 a ha hm
    obtain ⟨d1, d2, d3, d4⟩ := b8 a (a1.1 a ha).1 hm
    exact ⟨d1.trans c1, d2.trans c2, d3.trans c3, d4.trans c4⟩
  · refine ⟨?_, Nat.le_trans (a11 k hk).2 (b11 k hk).2⟩
    rcases (b11 k hk).1 with g | g
    · rw [g]
      exact (a11 k hk).1
    · exact .inr (a10 _ g)
/-- an array that loading writes into, behind what was there before -/
theorem ldF.up (hB : mB own mm A h) {k : Nat} {f : Nat → Int32} (hk : k ∈ ldl) (h8 : k = 8 ∨ k = 9 → ∀ j, j < 12 * nm → f j = F (A k) j) (h10 : k = 10 → ∀ j, j < 4 * nm → f j = F (A k) j) (h11 : k = 11 ∨ k = 12 → ∀ j, j < en0 → f j = F (A k) j) : ldF mm nm en0 own A h F own A h (va_up F (A k) f) := by
  have hin : ∀ k, k ∈ ldl → ∃ e ∈ aL, e.1 = k := by decide
  have ow : 60 ≤ own (A k) := by
    obtain ⟨e, h1, h2⟩ := hin k hk
    have := (hB.2.2 e h1).2.2.1
    rw [h2] at this
    omega
  have at_ : ∀ i, i ∈ ldl → ∀ P : Int32 → Prop, ∀ j, P (F (A i) j) → (k = i → P (f j)) → P (va_up F (A k) f (A i) j) := by
    intro i hi P j g1 g2
    rw [xh_up]
    split
    · rename_i e
      by_cases hik : i = k
      · exact g2 hik.symm
      · exact absurd e (hB.ne (hin i hi) (hin k hk) hik)
    · exact g1
  refine ⟨zT.up ow, hB, fun _ _ _ => rfl, fun a _ _ hl => by rw [xh_up, if_neg (hl k hk)], fun j hj => ⟨?_, ?_⟩, fun j hj => ?_, fun j hj => ⟨?_, ?_⟩, fun _ _ _ => ⟨rfl, rfl, rfl, rfl⟩, fun _ _ => rfl, fun _ ha => ha, fun _ _ => ⟨.inl rfl, Nat.le_refl _⟩⟩
  · exact at_ 8 (by decide) (fun x => x = F (A 8) j) j rfl (fun e => by subst e; exact h8 (.inl rfl) j hj)
  · exact at_ 9 (by decide) (fun x => x = F (A 9) j) j rfl (fun e => by subst e; exact h8 (.inr rfl) j hj)
  · exact at_ 10 (by decide) (fun x => x = F (A 10) j) j rfl (fun e => by subst e; exact h10 rfl j hj)
  · exact at_ 11 (by decide) (fun x => x = F (A 11) j) j rfl (fun e => by subst e; exact h11 (.inl rfl) j hj)
  · exact at_ 12 (by decide) (fun x => x = F (A 12) j) j rfl (fun e => by subst e; exact h11 (.inr rfl) j hj)
theorem z_12 {x y : Int32} {n s : Nat} (h1 : x.toInt = n) (h2 : y.toInt = s) (hn : n < 64) (hs : s < 12) : (12 * x + y).toInt = (12 * n + s : Nat) := by
  rw [z_add, Int32.toInt_mul, z_bm, h1, h2]
  simp only [Int32.reduceToInt]
  omega
theorem m_noteE {x1 : Int32} {s en len bc bs : Nat} {Qr : xb_H → Nat → Nat → Prop} (hB : mB own mm A h) (h1 : x1.toInt = s) (hs : s < 12) (h5 : (v 5).toInt = nm) (hnm : nm < 64) (h13 : (v 13).toInt = en) (hl : xb_n h (A 11) = len) (hen : en < len) (hlen : len ≤ 16384)
    (hQ : Qr (mH h (va_up (va_up F (A 11) (va_up (F (A 11)) en (v 15))) (A 9) (va_up (F (A 9)) (12 * nm + s) (F (A 9) (12 * nm + s) + 1))) mm (va_up v 13 (v 13 + 1))) bc bs) : w_M_note_L80 Qr mm x1 (mH h F mm v) bc bs := by
  obtain ⟨a1, a2, a3, a4⟩ := hB.g (k := 11) (kd := 102) (n := 0) (by decide)
  obtain ⟨c1, c2, c3, c4⟩ := hB.g (k := 9) (kd := 102) (n := 768) (by decide)
  have n11 : A 11 ≠ mm := hB.nm (by decide)
  have n9 : A 9 ≠ mm := hB.nm (by decide)
  have n911 : A 9 ≠ A 11 := hB.ne (by decide) (by decide) (by decide)
  unfold w_M_note_L80
  rw [mH_i]
  refine ⟨hB.2.1, A 11, a1, a2, ?_, fun g5 e5 g6 e6 => ?_⟩
  · rw [z_in, h13]
    show _ ∧ (en : Int) < ((xb_n h (A 11) : Nat) : Int)
    omega
  · rw [mH_A n11, z_cl, h13, Int.toNat_natCast] at e5
    subst e5
    rw [mH_i, mH_I] at e6
    subst e6
    rw [mH_i]
    have e12 : (12 * va_up v 13 (v 13 + 1) 5 + x1).toInt = (12 * nm + s : Nat) := z_12 (by rw [xh_up, if_neg (by omega)]; exact h5) h1 hnm hs
    have hin : vp_in (12 * va_up v 13 (v 13 + 1) 5 + x1) (xb_n h (A 9)) := by
      rw [z_in, e12]
      omega
    refine ⟨A 9, c1, c2, hin, hin, fun g11 e11 => ?_⟩
    rw [mH_A n9, mH_o n9, xh_up, if_neg n911, show (12 * va_up v 13 (v 13 + 1) 5 + x1).toNatClampNeg = 12 * nm + s from by rw [z_cl, e12]; omega] at e11
    subst e11
    exact hQ
theorem m_noteL {x1 : Int32} {en q5 q8 n5 bc bs : Nat} {Qr : xb_H → Nat → Nat → Prop} (hk : xb_k h mm = 9) (h13 : (v 13).toInt = en) (hn : n5 ≤ 100000) (r11 : xb_r h mm 11 = some (A 11)) (r12 : xb_r h mm 12 = some (A 12)) (k11 : xb_k h (A 11) = 102 ∧ xb_n h (A 11) = en) (k12 : xb_k h (A 12) = 102 ∧ xb_n h (A 12) = en) (k5 : xb_k h q5 = 102 ∧ xb_n h q5 = n5) (k8 : xb_k h q8 = 102 ∧ xb_n h q8 = n5) (hen : en ≤ n5) (hd : q5 ≠ mm ∧ q8 ≠ mm ∧ q5 ≠ q8 ∧ A 11 ≠ mm ∧ A 12 ≠ mm ∧ A 11 ≠ q5 ∧ A 11 ≠ q8 ∧ A 12 ≠ q5 ∧ A 12 ≠ q8)
    (hQ : ∀ f5 f8 : Nat → Int32, (∀ j, j < en → f5 j = F (A 11) j ∧ f8 j = F (A 12) j) → w_M_note_L80 Qr mm x1 (mH (xb_P (xb_P h mm 11 (some q5)) mm 12 (some q8)) (va_up (va_up F q5 f5) q8 f8) mm v) bc bs) : ∀ (m k : Nat) (x4 : Int32) (f5 f8 : Nat → Int32), x4.toInt = k → k ≤ en → en - k ≤ m → (∀ j, j < k → f5 j = F (A 11) j ∧ f8 j = F (A 12) j) → w_M_note_L33 Qr (m + 1) mm x1 q5 q8 x4 (mH h (va_up (va_up F q5 f5) q8 f8) mm v) bc bs := by
  obtain ⟨d1, d2, d3, d4, d5, d6, d7, d8, d9⟩ := hd
  intro m
  induction m with
  | zero =>
    intro k x4 f5 f8 e4 hke hm hf
    unfold w_M_note_L33
    rw [mH_i]
    refine ⟨hk, fun _ g3 e3 g4 e4' => ?_, fun hl => ?_⟩
    · subst e3
      subst e4'
      exact hQ f5 f8 (fun j hj => hf j (by omega))
    · rw [z_le, h13, e4] at hl
      omega
  | succ m ih =>
    intro k x4 f5 f8 e4 hke hm hf
    unfold w_M_note_L33
    rw [mH_i]
    refine ⟨hk, fun hl g3 e3 g4 e4' => ?_, fun hl => ?_⟩
    · rw [z_le, h13, e4] at hl
      subst e3
      subst e4'
      exact hQ f5 f8 (fun j hj => hf j (by omega))
    · rw [z_le, h13, e4] at hl
      have ck : x4.toNatClampNeg = k := by
        rw [z_cl, e4]
        omega
      have hin : ∀ n : Nat, k < n → vp_in x4 n := fun n hn => by
        rw [z_in, e4]
        omega
      refine ⟨A 11, r11, k11.1, hin _ (by show k < xb_n h (A 11); omega), k5.1, hin _ (by show k < xb_n h q5; omega), fun g10 e10 => ⟨A 12, ?_⟩⟩
      rw [mH_A d1, mH_o d4, ck] at e10
      subst e10
      refine ⟨r12, k12.1, hin _ (by show k < xb_n h (A 12); omega), k8.1, hin _ (by show k < xb_n h q8; omega), fun g16 e16 => ?_⟩
      rw [mH_A d2, mH_o d5, ck] at e16
      subst e16
      have eF : va_up (va_up (va_up (va_up F q5 f5) q8 f8) q5 (va_up (va_up (va_up F q5 f5) q8 f8 q5) k (va_up (va_up F q5 f5) q8 f8 (A 11) k))) q8 (va_up (va_up (va_up (va_up F q5 f5) q8 f8) q5 (va_up (va_up (va_up F q5 f5) q8 f8 q5) k (va_up (va_up F q5 f5) q8 f8 (A 11) k)) q8) k (va_up (va_up (va_up F q5 f5) q8 f8) q5 (va_up (va_up (va_up F q5 f5) q8 f8 q5) k (va_up (va_up F q5 f5) q8 f8 (A 11) k)) (A 12) k)) = va_up (va_up F q5 (va_up f5 k (F (A 11) k))) q8 (va_up f8 k (F (A 12) k)) := by
        funext a
        simp only [xh_up]
        by_cases h8 : a = q8
        · subst h8
          simp only [if_true, if_neg (Ne.symm d3), if_neg d8, if_neg d9]
        · simp only [if_neg h8]
          by_cases h9 : a = q5
          · subst h9
            simp only [if_true, if_neg d3, if_neg d6, if_neg d7]
          · simp only [if_neg h9]
      rw [eF]
      refine ih (k + 1) (x4 + 1) _ _ (z_inc e4 (by omega)) (by omega) (by omega) (fun j hj => ?_)
      rw [xh_up, xh_up]
      by_cases hjk : j = k
      · subst hjk
        rw [if_pos rfl, if_pos rfl]
        exact ⟨rfl, rfl⟩
      · rw [if_neg hjk, if_neg hjk]
        exact hf j (by omega)
theorem m_note {x1 : Int32} {s en len rc rs bc bs : Nat} {Qr : xb_H → Nat → Nat → Prop} (hB : mB own mm A h) (h1 : x1.toInt = s) (hs : s < 12) (h5 : (v 5).toInt = nm) (hnm : nm < 64) (h13 : (v 13).toInt = en) (hl : lenE A h len) (hen : en ≤ len) (hen2 : en < 16384) (hen0 : en0 ≤ en) (hb : bgE len rc rs bc bs)
    (hQ : ∀ (own' A' : Nat → Nat) (h' : xb_H) (F' : Nat → Nat → Int32) (len' bc' bs' : Nat), ldF mm nm en0 own A h F own' A' h' F' → lenE A' h' len' → bgE len' rc rs bc' bs' → en + 1 ≤ len' →
      F' (A 9) = va_up (F (A 9)) (12 * nm + s) (F (A 9) (12 * nm + s) + 1) → F' (A 8) = F (A 8) → F' (A 10) = F (A 10) → (∀ j, j < en → F' (A' 11) j = F (A 11) j) → F' (A' 11) en = v 15 → Qr (mH h' F' mm (va_up v 13 (v 13 + 1))) bc' bs') : w_M_note mm x1 (mH h F mm v) bc bs Qr := by
  obtain ⟨l1, l2, l3⟩ := id hl
  obtain ⟨b1, b2⟩ := id hb
  obtain ⟨a1, a2, a3, a4⟩ := hB.g (k := 11) (kd := 102) (n := 0) (by decide)
  obtain ⟨c1, c2, c3, c4⟩ := hB.g (k := 12) (kd := 102) (n := 0) (by decide)
  have ne : ∀ j k, j ≠ k → (∃ e ∈ aL, e.1 = j) → (∃ e ∈ aL, e.1 = k) → A j ≠ A k := fun j k h1 h2 h3 => hB.ne h2 h3 h1
  unfold w_M_note
  rw [mH_i]
  refine ⟨hB.2.1, A 11, a1, a2, fun hne => ?_, fun he => ?_⟩
  · have hlt : en < len := by
      rw [z_eq, h13, z_nI (by show xb_n h (A 11) < _; omega)] at hne
      have : xb_n (mH h F mm v) (A 11) = len := l1
      omega
    have U1 := ldF.up (nm := nm) (en0 := en0) (F := F) hB (k := 11) (f := va_up (F (A 11)) en (v 15)) (by decide) (fun e => by omega) (fun e => by omega) (fun _ j hj => by rw [xh_up, if_neg (by omega)])
    have U2 := ldF.up (nm := nm) (en0 := en0) (F := va_up F (A 11) (va_up (F (A 11)) en (v 15))) hB (k := 9) (f := va_up (F (A 9)) (12 * nm + s) (F (A 9) (12 * nm + s) + 1)) (by decide) (fun _ j hj => by rw [xh_up, if_neg (by omega), xh_up, if_neg (ne 9 11 (by decide) (by decide) (by decide))]) (fun e => by omega) (fun e => by omega)
    refine m_noteE hB h1 hs h5 hnm h13 l1 hlt (by omega) (hQ own A h _ len bc bs (ldF.tr hB U1 U2) hl hb (by omega) ?_ ?_ ?_ (fun j hj => ?_) ?_)
    · rw [xh_up, if_pos rfl]
    · rw [xh_up, if_neg (ne 8 9 (by decide) (by decide) (by decide)), xh_up, if_neg (ne 8 11 (by decide) (by decide) (by decide))]
    · rw [xh_up, if_neg (ne 10 9 (by decide) (by decide) (by decide)), xh_up, if_neg (ne 10 11 (by decide) (by decide) (by decide))]
    · rw [xh_up, if_neg (ne 11 9 (by decide) (by decide) (by decide)), xh_up, if_pos rfl, xh_up, if_neg (by omega)]
    · rw [xh_up, if_neg (ne 11 9 (by decide) (by decide) (by decide)), xh_up, if_pos rfl, xh_up, if_pos rfl]
  · have hle : en = len := by
      rw [z_eq, h13, z_nI (by show xb_n h (A 11) < _; omega)] at he
      have : xb_n (mH h F mm v) (A 11) = len := l1
      omega
    subst hle
    have e2 : (2 * v 13).toInt = (2 * en : Nat) := by
      rw [Int32.toInt_mul, z_bm, h13]
      simp only [Int32.reduceToInt]
      omega
    have c2n : (2 * v 13).toNatClampNeg = 2 * en := by
      rw [z_cl, e2]
      omega
    have neg : ¬ 2 * v 13 < 0 := by
      rw [z_lt, e2]
      simp only [Int32.reduceToInt]
      omega
    rw [c2n]
    refine ⟨neg, by omega, by omega, by omega, fun q5 hq5 g6 e6 => ?_⟩
    have hq5' : xb_k h q5 = 0 := hq5
    have qm5 : q5 ≠ mm := fun e => by rw [e, hB.2.1] at hq5'; omega
    rw [mH_N qm5] at e6
    subst e6
    rw [mH_i, c2n]
    refine ⟨neg, by omega, by omega, by omega, fun q8 hq8 g9 e9 => ?_⟩
    have hq8' : (if q8 = q5 then 102 else xb_k h q8) = 0 := hq8
    have q85 : q8 ≠ q5 := fun e => by rw [if_pos e] at hq8'; omega
    rw [if_neg q85] at hq8'
    have qm8 : q8 ≠ mm := fun e => by rw [e, hB.2.1] at hq8'; omega
    rw [mH_N qm8] at e9
    subst e9
    have na : ∀ k, (∃ e ∈ aL, e.1 = k) → A k ≠ q5 ∧ A k ≠ q8 := fun k ⟨e, he1, he2⟩ => by
      have := hB.pk e he1
      rw [he2] at this
      exact ⟨fun e9 => this (by rw [e9]; exact hq5'), fun e9 => this (by rw [e9]; exact hq8')⟩
    have kN : ∀ a, a ≠ q5 → a ≠ q8 → xb_k (xb_new (xb_new h q5 102 (2 * en)) q8 102 (2 * en)) a = xb_k h a ∧ xb_n (xb_new (xb_new h q5 102 (2 * en)) q8 102 (2 * en)) a = xb_n h a := fun a g1 g2 => by
      rw [xh_kN, if_neg g2, xh_kN, if_neg g1, xh_nN, if_neg g2, xh_nN, if_neg g1]
      exact ⟨rfl, rfl⟩
    have k11 := kN (A 11) (na 11 (by decide)).1 (na 11 (by decide)).2
    have k12 := kN (A 12) (na 12 (by decide)).1 (na 12 (by decide)).2
    have r11 : ∀ k, xb_r (xb_new (xb_new h q5 102 (2 * en)) q8 102 (2 * en)) mm k = xb_r h mm k := fun k => by
      rw [xh_rN, if_neg (Ne.symm qm8), xh_rN, if_neg (Ne.symm qm5)]
    refine ⟨en + 1, m_noteL (A := A) (en := en) (n5 := 2 * en) (F := F) (by rw [(kN mm (Ne.symm qm5) (Ne.symm qm8)).1]; exact hB.2.1) h13 (by omega) (by rw [r11]; exact a1) (by rw [r11]; exact c1) (by rw [k11.1, k11.2]; exact ⟨a2, l1⟩) (by rw [k12.1, k12.2]; exact ⟨c2, l2⟩) ?_ ?_ (by omega) ⟨qm5, qm8, Ne.symm q85, hB.nm (by decide), hB.nm (by decide), (na 11 (by decide)).1, (na 11 (by decide)).2, (na 12 (by decide)).1, (na 12 (by decide)).2⟩ (fun f5 f8 hf => ?_) en 0 0 _ _ rfl (by omega) (by omega) (fun j hj => by omega)⟩
    · rw [xh_kN, if_neg (Ne.symm q85), xh_kN, if_pos rfl, xh_nN, if_neg (Ne.symm q85), xh_nN, if_pos rfl]
      exact ⟨rfl, rfl⟩
    · rw [xh_kN, if_pos rfl, xh_nN, if_pos rfl]
      exact ⟨rfl, rfl⟩
    -- the wider rows are in place
    have hu11 : ∀ e ∈ aL, e.1 = 11 → e.2 = (102, 0) := by decide
    have hu12 : ∀ e ∈ aL, e.1 = 12 → e.2 = (102, 0) := by decide
    have B1 := hB.sw (q := q5) (k := 11) (kd := 102) (n := 2 * en) (by decide) hu11 (by decide) hq5'
    have B2 := B1.sw (q := q8) (k := 12) (kd := 102) (n := 2 * en) (by decide) hu12 (by decide) (by show xb_k (xb_new h q5 102 (2 * en)) q8 = 0; rw [xh_kN, if_neg q85]; exact hq8')
    have hg : (xb_P (xb_new (xb_P (xb_new h q5 102 (2 * en)) mm 11 (some q5)) q8 102 (2 * en)) mm 12 (some q8)) = xb_P (xb_P (xb_new (xb_new h q5 102 (2 * en)) q8 102 (2 * en)) mm 11 (some q5)) mm 12 (some q8) := by
      show (_, _, _, _, _) = (_, _, _, _, _)
      refine Prod.ext rfl (Prod.ext rfl (Prod.ext rfl (Prod.ext rfl ?_)))
      funext a
      show va_up (fun b => if b = q8 then (fun _ => none) else va_up (fun b => if b = q5 then (fun _ => none) else xb_r h b) mm (va_up (if mm = q5 then (fun _ => none) else xb_r h mm) 11 (some q5)) b) mm (va_up (if mm = q8 then (fun _ => none) else va_up (fun b => if b = q5 then (fun _ => none) else xb_r h b) mm (va_up (if mm = q5 then (fun _ => none) else xb_r h mm) 11 (some q5)) mm) 12 (some q8)) a = va_up (va_up (fun b => if b = q8 then (fun _ => none) else if b = q5 then (fun _ => none) else xb_r h b) mm (va_up (if mm = q8 then (fun _ => none) else if mm = q5 then (fun _ => none) else xb_r h mm) 11 (some q5))) mm (va_up (va_up (fun b => if b = q8 then (fun _ => none) else if b = q5 then (fun _ => none) else xb_r h b) mm (va_up (if mm = q8 then (fun _ => none) else if mm = q5 then (fun _ => none) else xb_r h mm) 11 (some q5)) mm) 12 (some q8)) a
      simp only [xh_up, if_neg (Ne.symm qm8), if_neg (Ne.symm qm5), if_true]
      by_cases h9 : a = mm
      · simp only [if_pos h9]
      · simp only [if_neg h9]
    rw [hg] at B2
    obtain ⟨hh, ehh⟩ : ∃ hh, hh = xb_P (xb_P (xb_new (xb_new h q5 102 (2 * en)) q8 102 (2 * en)) mm 11 (some q5)) mm 12 (some q8) := ⟨_, rfl⟩
    rw [← ehh] at B2 ⊢
    have kh : xb_k hh = xb_k (xb_new (xb_new h q5 102 (2 * en)) q8 102 (2 * en)) := by rw [ehh]; rfl
    have nh : xb_n hh = xb_n (xb_new (xb_new h q5 102 (2 * en)) q8 102 (2 * en)) := by rw [ehh]; rfl
    have lh : xb_l hh = xb_l (xb_new (xb_new h q5 102 (2 * en)) q8 102 (2 * en)) := by rw [ehh]; rfl
    have rh : ∀ a, a ≠ mm → xb_r hh a = xb_r (xb_new (xb_new h q5 102 (2 * en)) q8 102 (2 * en)) a := fun a ha => by rw [ehh, xh_rP, if_neg ha, xh_rP, if_neg ha]
    have nn : ∀ a, xb_k h a ≠ 0 → a ≠ q5 ∧ a ≠ q8 := fun a ha => ⟨fun e9 => ha (by rw [e9]; exact hq5'), fun e9 => ha (by rw [e9]; exact hq8')⟩
    have A11 : va_up (va_up A 11 q5) 12 q8 11 = q5 := by rw [xh_up, if_neg (by decide), xh_up, if_pos rfl]
    have A12 : va_up (va_up A 11 q5) 12 q8 12 = q8 := by rw [xh_up, if_pos rfl]
    have Ao : ∀ k, k ≠ 11 → k ≠ 12 → va_up (va_up A 11 q5) 12 q8 k = A k := fun k g1 g2 => by rw [xh_up, if_neg g2, xh_up, if_neg g1]
    have ownl : ∀ a, xb_k h a ≠ 0 → (fun a => if a = q8 then 61 + 12 else if a = q5 then 61 + 11 else own a) a = own a := fun a ha => by
      dsimp only
      rw [if_neg (nn a ha).2, if_neg (nn a ha).1]
    have LG : ldF mm nm en0 own A h F (fun a => if a = q8 then 61 + 12 else if a = q5 then 61 + 11 else own a) (va_up (va_up A 11 q5) 12 q8) hh (va_up (va_up F q5 f5) q8 f8) := by
      refine ⟨⟨fun a ha => ⟨?_, ownl a ha⟩, fun a hoa ha => ?_⟩, B2, fun k g1 g2 => Ao k g1 g2, fun a ha _ _ => ?_, fun j hj => ?_, fun j hj => ?_, fun j hj => ?_, fun a ha hm => ?_, fun k _ => ?_, fun a ha => ?_, fun k hk => ?_⟩
      · rw [kh, (kN a (nn a ha).1 (nn a ha).2).1]
        exact ha
      · rw [kh, nh, lh, (kN a (nn a ha).1 (nn a ha).2).1, (kN a (nn a ha).1 (nn a ha).2).2, rh a (fun e => by rw [e, hB.1] at hoa; omega), xh_lN, if_neg (nn a ha).2, xh_lN, if_neg (nn a ha).1, xh_rN, if_neg (nn a ha).2, xh_rN, if_neg (nn a ha).1, xh_up, if_neg (nn a ha).2, xh_up, if_neg (nn a ha).1]
        exact ⟨rfl, rfl, rfl, rfl, rfl⟩
      · rw [xh_up, if_neg (nn a ha).2, xh_up, if_neg (nn a ha).1]
      · rw [xh_up, if_neg (na 8 (by decide)).2, xh_up, if_neg (na 8 (by decide)).1, xh_up, if_neg (na 9 (by decide)).2, xh_up, if_neg (na 9 (by decide)).1]
        exact ⟨rfl, rfl⟩
      · rw [xh_up, if_neg (na 10 (by decide)).2, xh_up, if_neg (na 10 (by decide)).1]
      · rw [A11, A12, xh_up, if_neg (Ne.symm q85), xh_up, if_pos rfl, xh_up, if_pos rfl]
        exact hf j (by omega)
      · rw [kh, nh, lh, (kN a (nn a ha).1 (nn a ha).2).1, (kN a (nn a ha).1 (nn a ha).2).2, rh a hm, xh_lN, if_neg (nn a ha).2, xh_lN, if_neg (nn a ha).1, xh_rN, if_neg (nn a ha).2, xh_rN, if_neg (nn a ha).1]
        exact ⟨rfl, rfl, rfl, rfl⟩
      · rw [lh, xh_lN, if_neg (Ne.symm qm8), xh_lN, if_neg (Ne.symm qm5)]
      · rw [kh, xh_kN] at ha
        split at ha
        · omega
        · rw [xh_kN] at ha
          split at ha
          · omega
          · exact ha
      · have : k = 11 ∨ k = 12 := by
          simp only [List.mem_cons, List.mem_nil_iff, or_false] at hk
          exact hk
        rcases this with e | e <;> subst e
        · rw [A11]
          exact ⟨.inr hq5', by rw [nh, xh_nN, if_neg (Ne.symm q85), xh_nN, if_pos rfl, l1]; omega⟩
        · rw [A12]
          exact ⟨.inr hq8', by rw [nh, xh_nN, if_pos rfl, l2]; omega⟩
    have l11 : xb_n hh (va_up (va_up A 11 q5) 12 q8 11) = 2 * en := by
      rw [A11, nh, xh_nN, if_neg (Ne.symm q85), xh_nN, if_pos rfl]
    have l12 : xb_n hh (va_up (va_up A 11 q5) 12 q8 12) = 2 * en := by
      rw [A12, nh, xh_nN, if_pos rfl]
    have n9 : ∀ j k, j ≠ k → (∃ e ∈ aL, e.1 = j) → (∃ e ∈ aL, e.1 = k) → va_up (va_up A 11 q5) 12 q8 j ≠ va_up (va_up A 11 q5) 12 q8 k := fun j k h1 h2 h3 => B2.ne h2 h3 h1
    obtain ⟨G, eG⟩ : ∃ G, G = va_up (va_up F q5 f5) q8 f8 := ⟨_, rfl⟩
    have G9 : G (A 9) = F (A 9) := by rw [eG, xh_up, if_neg (na 9 (by decide)).2, xh_up, if_neg (na 9 (by decide)).1]
    have G8 : G (A 8) = F (A 8) := by rw [eG, xh_up, if_neg (na 8 (by decide)).2, xh_up, if_neg (na 8 (by decide)).1]
    have G10 : G (A 10) = F (A 10) := by rw [eG, xh_up, if_neg (na 10 (by decide)).2, xh_up, if_neg (na 10 (by decide)).1]
    have G11 : G q5 = f5 := by rw [eG, xh_up, if_neg (Ne.symm q85), xh_up, if_pos rfl]
    rw [← eG] at LG ⊢
    obtain ⟨A', eA⟩ : ∃ A' : Nat → Nat, A' = va_up (va_up A 11 q5) 12 q8 := ⟨_, rfl⟩
    rw [← eA] at LG B2 A11 A12 Ao l11 l12 n9
    have U1 := ldF.up (nm := nm) (en0 := en0) (F := G) B2 (k := 11) (f := va_up (G (A' 11)) en (v 15)) (by decide) (fun e => by omega) (fun e => by omega) (fun _ j hj => by rw [xh_up, if_neg (by omega)])
    have U2 := ldF.up (nm := nm) (en0 := en0) (F := va_up G (A' 11) (va_up (G (A' 11)) en (v 15))) B2 (k := 9) (f := va_up (G (A' 9)) (12 * nm + s) (G (A' 9) (12 * nm + s) + 1)) (by decide) (fun _ j hj => by rw [xh_up, if_neg (by omega), xh_up, if_neg (n9 9 11 (by decide) (by decide) (by decide))]) (fun e => by omega) (fun e => by omega)
    have a9 : A' 9 = A 9 := Ao 9 (by decide) (by decide)
    have a8 : A' 8 = A 8 := Ao 8 (by decide) (by decide)
    have a10 : A' 10 = A 10 := Ao 10 (by decide) (by decide)
    refine m_noteE B2 h1 hs h5 hnm h13 l11 (by omega) (by omega) (hQ _ A' hh _ (2 * en) _ _ (ldF.tr hB LG (ldF.tr B2 U1 U2)) ⟨l11, l12, by omega⟩ ⟨by omega, by omega⟩ (by omega) ?_ ?_ ?_ (fun j hj => ?_) ?_)
    · rw [← a9, xh_up, if_pos rfl, a9, G9]
    · rw [← a8, xh_up, if_neg (n9 8 9 (by decide) (by decide) (by decide)), xh_up, if_neg (n9 8 11 (by decide) (by decide) (by decide)), a8, G8]
    · rw [← a10, xh_up, if_neg (n9 10 9 (by decide) (by decide) (by decide)), xh_up, if_neg (n9 10 11 (by decide) (by decide) (by decide)), a10, G10]
    · rw [xh_up, if_neg (n9 11 9 (by decide) (by decide) (by decide)), xh_up, if_pos rfl, xh_up, if_neg (by omega), A11, G11]
      exact (hf j hj).1
    · rw [xh_up, if_neg (n9 11 9 (by decide) (by decide) (by decide)), xh_up, if_pos rfl, xh_up, if_pos rfl]
end MR9
