-- the reference's reader: an instruction list
section MR7
variable {h : xb_H} {F : Nat → Nat → Int32} {mm st N b e p p' q ok : Nat} {cb v v' v2 : Nat → Int32}
theorem rdH.up {a : Nat} {f : Nat → Int32} (hs : rdH mm st N b e cb h F) (ha : st ≠ a) : rdH mm st N b e cb h (va_up F a f) := by
  obtain ⟨s1, s2, s3, s4, s5, s6, s7, s8⟩ := hs
  exact ⟨s1, s2, s3, s4, s5, s6, s7, fun j j1 j2 => by rw [xh_up, if_neg ha]; exact s8 j j1 j2⟩
theorem va_id {α : Type} (G : Nat → α) (a : Nat) : va_up G a (G a) = G := by
  funext j
  rw [xh_up]
  split
  · rename_i e
    rw [e]
  · rfl
theorem mH_AA {k : Nat} {x : Int32} {f : Nat → Int32} (ha : ok ≠ mm) : xb_I (mH h (va_up F ok f) mm v) ok k x = mH h (va_up F ok (va_up f k x)) mm v := by
  rw [mH_A ha, bx_uu, xh_up, if_pos rfl]
theorem ub_cb (hby : -128 ≤ (cb p).toInt ∧ (cb p).toInt ≤ 127) (hu : (ub cb p).toInt < 128) : ub cb p = cb p := by
  rw [z_eq]
  unfold ub at hu ⊢
  rw [z_255] at hu ⊢
  omega
theorem ub_op : ((cb p).toInt % 256) = (ub cb p).toInt := by
  unfold ub
  rw [z_255]
/-- where the loop stands -/
def exL (cb : Nat → Int32) (a0 p : Nat) (x1 x2 : Int32) (f : Nat → Int32) : Prop := (x2 = 0 ∧ exR cb a0 p) ∨ (x2 = 1 ∧ a0 ≤ p ∧ ∃ s : List (Nat × Option Nat), x1.toInt = s.length ∧ exI cb a0 p f s)
theorem m_expressionL {Qr : xb_H → Prop} {a0 : Nat} (hs : rdH mm st N b e cb h F) (hby : ∀ j, -128 ≤ (cb j).toInt ∧ (cb j).toInt ≤ 127) (k24 : xb_r h mm 24 = some ok ∧ xb_k h ok = 102 ∧ xb_n h ok = 202 ∧ ok ≠ mm ∧ st ≠ ok) (hv0 : Nat → Int32)
    (hQ : ∀ (v' : Nat → Int32) (p' : Nat) (f' : Nat → Int32), ro hv0 v' a0 p' e → (v' 17 = 0 → exR cb a0 p') → Qr (mH h (va_up F ok f') mm v')) :
    ∀ (m p : Nat) (x1 x2 : Int32) (f v : Nat → Int32), rdP v b p e → ro hv0 v a0 p e → e - p + 1 ≤ m → (v 17 = 0 → exL cb a0 p x1 x2 f) → w_M_expression_L4 Qr (m + 1) mm x1 x2 (mH h (va_up F ok f) mm v) := by
  obtain ⟨k1, k2, k3, k4, k5⟩ := k24
  have hN : N ≤ 1000000 ∧ e ≤ N := ⟨hs.2.2.2.2.1, hs.2.2.2.2.2.2.1⟩
  have dead : ∀ (m p : Nat) (x1 x2 : Int32) (f v' : Nat → Int32), ro hv0 v' a0 p e → v' 17 ≠ 0 → w_M_expression_L4 Qr (m + 1) mm x1 x2 (mH h (va_up F ok f) mm v') := by
    intro m p x1 x2 f v' o1 g2
    have hq := hQ v' p f o1 (fun h9 => absurd h9 g2)
    unfold w_M_expression_L4 w_M_expression_L154
    rw [mH_i]
    exact ⟨fun _ => hq, fun _ => ⟨hs.1, fun _ => hq, fun h9 => absurd h9 g2⟩⟩
  intro m
  induction m with
  | zero => intro p x1 x2 f v _ _ hm; omega
  | succ m ih =>
    intro p x1 x2 f v hp ho hm hL
    by_cases hz : v 17 = 0
    · rcases hL hz with ⟨l1, l2⟩ | ⟨l1, l2, s, l3, l4⟩
      · have hq := hQ v p f ho (fun _ => l2)
        unfold w_M_expression_L4 w_M_expression_L154
        rw [mH_i]
        exact ⟨fun _ => hq, fun h9 => absurd l1 h9⟩
      · have hs' : rdH mm st N b e cb h (va_up F ok f) := hs.up k5
        have l5 := l4.1
        unfold w_M_expression_L4
        rw [mH_i]
        refine ⟨fun h9 => absurd (h9.symm.trans l1) (by decide), fun _ => ⟨hs.1, fun h9 => absurd hz h9, fun _ v4 e4 => m_next hs' hp (fun r v1 p1 o1 f1 b1 _ => ?_)⟩⟩
        rw [mH_i]
        refine ⟨fun hz1 => ?_, fun hn => hQ v1 p1 f (ho.tr o1) (fun h9 => absurd h9 hn)⟩
        obtain ⟨f2, f3⟩ := f1 hz1
        subst f2 f3
        have P1 := o1.P hp
        have hr := ub_r (cb := cb) (p := p)
        have ho1 := ho.tr o1
        have hp1 := o1.2.2.2.1
        obtain ⟨op, hop⟩ : ∃ op : Nat, (ub cb p).toInt = op := ⟨(ub cb p).toInt.toNat, by omega⟩
        have hsh : wk_sh ((cb p).toInt % 256) = wk_sh op := by rw [ub_op, hop]
        -- what is written, then the next turn
        have go : ∀ (y1 y2 : Int32) (f' : Nat → Int32), (∀ q, q ≤ e → rW cb (wk_sh op) (p + 1) q → exL cb a0 q y1 y2 f') → w_M_expression_L137 (w_M_expression_L4 Qr (m + 1)) Qr mm y1 y2 v4 (ub cb p) (mH h (va_up F ok f') mm v1) := by
          intro y1 y2 f' hx
          unfold w_M_expression_L137 w_M_expression_L151
          rw [mH_i]
          refine ⟨hs.1, fun hn => absurd hz1 hn, fun _ => m_written hop (hs.up k5) P1 (fun v2 p2 o2 g2 _ _ => ih p2 y1 y2 f' v2 (o2.P P1) (ho1.tr o2) (by have := o2.2.2.1; have := o2.2.2.2.1; omega) (fun hz2 => hx p2 o2.2.2.2.1 (g2 hz2)))⟩
        -- nothing more
        have die : ∀ (y1 y2 : Int32) (f' v' : Nat → Int32), ro hv0 v' a0 (p + 1) e → v' 17 ≠ 0 → w_M_expression_L137 (w_M_expression_L4 Qr (m + 1)) Qr mm y1 y2 v4 (ub cb p) (mH h (va_up F ok f') mm v') := by
          intro y1 y2 f' v' o2 hn
          unfold w_M_expression_L137 w_M_expression_L151
          rw [mH_i]
          exact ⟨hs.1, fun _ => dead m (p + 1) y1 y2 f' v' o2 hn, fun h9 => absurd h9 hn⟩
        have L96 : w_M_expression_L96 (w_M_expression_L4 Qr (m + 1)) Qr mm x1 x2 v4 (ub cb p) (mH h (va_up F ok f) mm v1) := by
          unfold w_M_expression_L96
          exact ⟨hs.1, m_failR hs.1 P1 (by decide) (fun v' g1 g2 _ => die _ _ f v' (ho1.tr g1) g2)⟩
        have e11 : (x1 - 1).toInt = (s.length : Int) - 1 := by
          rw [z_sub, l3]
          simp only [Int32.reduceToInt]
          omega
        have L74 : ((ub cb p) < 2 ∨ 4 < ub cb p) → w_M_expression_L74 (w_M_expression_L4 Qr (m + 1)) Qr mm x1 x2 v4 (ub cb p) (mH h (va_up F ok f) mm v1) := by
          intro hn
          unfold w_M_expression_L74
          refine ⟨fun n5 => ⟨fun n11 => ?_, fun h11 => ?_⟩, fun h5 => ⟨fun _ => L96, fun hx0 => ⟨hs.1, ok, k1, k2, ?_, fun hf => ⟨ok, k1, k2, ?_, fun h13 e13 => ?_⟩, fun _ => L96⟩⟩⟩
          · refine go x1 x2 f (fun q hq hw => .inr ⟨l1, ?_, s, l3, ?_⟩)
            · have := (rW_b hw).1
              omega
            · have h13 := hw.2.2.2.2.2.2.2.2.2.2.2
              have n1 : wk_sh op ≠ 1 := fun h9 => by
                have := wk_sh1 (by omega) h9
                rw [z_lt, z_lt] at hn
                simp only [Int32.reduceToInt] at hn
                omega
              have n2 : wk_sh op ≠ 2 := fun h9 => n5 (by rw [z_eq, hop, wk_sh2 (by omega) h9]; rfl)
              have n3 : wk_sh op ≠ 3 := fun h9 => n11 (by rw [z_eq, hop, wk_sh3 h9]; rfl)
              by_cases h0 : wk_sh op = 0
              · have := hw.1 (.inl h0)
                subst this
                exact l4.plain (by rw [hsh]; exact h0)
              · exact l4.op hsh (by omega) hw (by omega)
          · have sh3 : wk_sh op = 3 := by
              rw [z_eq, hop] at h11
              simp only [Int32.reduceToInt] at h11
              rw [h11]
              rfl
            unfold w_M_expression_L133
            refine ⟨fun h0 => go _ _ f (fun q hq hw => ?_), fun h0 => go _ _ f (fun q hq hw => ?_)⟩
            · have := hw.1 (.inr (.inr sh3))
              subst this
              rw [z_le, l3] at h0
              simp only [Int32.reduceToInt] at h0
              cases s with
              | nil => exact .inl ⟨rfl, l4.fin l2 (by rw [hsh]; exact sh3)⟩
              | cons x t => simp only [List.length_cons] at h0; omega
            · have := hw.1 (.inr (.inr sh3))
              subst this
              rw [z_le, l3] at h0
              simp only [Int32.reduceToInt] at h0
              cases s with
              | nil => simp only [List.length_nil] at h0; omega
              | cons x t =>
                refine .inr ⟨rfl, by omega, t, ?_, l4.ends (by rw [hsh]; exact sh3) (by omega)⟩
                rw [z_add, l3]
                simp only [Int32.reduceToInt, List.length_cons] at l5 ⊢
                omega
          · rw [z_in, e11]
            show _ ∧ _ < ((xb_n h ok : Nat) : Int)
            rw [z_eq, l3] at hx0
            simp only [Int32.reduceToInt] at hx0
            omega
          · rw [z_in, e11]
            show _ ∧ _ < ((xb_n h ok : Nat) : Int)
            rw [z_eq, l3] at hx0
            simp only [Int32.reduceToInt] at hx0
            omega
          · rw [z_eq, l3] at hx0
            simp only [Int32.reduceToInt] at hx0
            rw [mH_AA k4] at e13
            subst e13
            rw [mH_o k4, xh_up, if_pos rfl] at hf
            cases s with
            | nil => simp only [List.length_nil] at hx0; omega
            | cons x t =>
              have c1 : (x1 - 1).toNatClampNeg = t.length := by
                rw [z_cl, e11]
                simp only [List.length_cons]
                omega
              rw [c1] at hf ⊢
              have sh2 : wk_sh op = 2 := by
                rw [z_eq, hop] at h5
                simp only [Int32.reduceToInt] at h5
                rw [h5]
                rfl
              refine go x1 x2 _ (fun q hq hw => ?_)
              have := hw.1 (.inr (.inl sh2))
              subst this
              obtain ⟨o, xe⟩ := x
              cases xe with
              | some e' =>
                have := l4.2.2.1.2.1 e' rfl
                rw [this] at hf
                exact absurd hf (by decide)
              | none =>
                have ho4 := l4.2.2.1.1 rfl
                rw [hf] at ho4
                have hp5 : cb p = 5 := by
                  rw [← ub_cb (hby p) (by rw [h5]; decide)]
                  exact h5
                exact .inr ⟨l1, by omega, (o, some p) :: t, l3, l4.els (by rw [hsh]; exact sh2) hp5 ho4.symm (by omega)⟩
        refine ⟨fun k => L74 (.inl k), fun k => ⟨fun k' => L74 (.inr k'), fun k' => ?_⟩⟩
        rw [z_lt, hop] at k k'
        simp only [Int32.reduceToInt] at k k'
        have L60 : ∀ v' : Nat → Int32, (v' = v1 ∧ s.length < 200) ∨ (ro hv0 v' a0 (p + 1) e ∧ v' 17 ≠ 0) → w_M_expression_L60 (w_M_expression_L4 Qr (m + 1)) Qr mm x1 x2 v4 (ub cb p) (mH h (va_up F ok f) mm v') := by
          intro v' hv
          unfold w_M_expression_L60
          refine ⟨hs.1, ok, k1, k2, ?_, fun h5 e5 => ?_⟩
          · rw [z_in, l3]
            show _ ∧ _ < ((xb_n h ok : Nat) : Int)
            omega
          · rw [mH_AA k4] at e5
            subst e5
            rcases hv with ⟨hv, hl⟩ | ⟨hv, hn⟩
            · subst hv
              have c1 : x1.toNatClampNeg = s.length := by
                rw [z_cl, l3]
                omega
              rw [c1]
              have hcb : ub cb p = cb p := ub_cb (hby p) (by omega)
              have sh1 : wk_sh op = 1 := wk_sh_o (by omega) (by omega)
              refine go _ x2 _ (fun q hq hw => ?_)
              rw [sh1] at hw
              have hq2 := (rW_1i.mp hw).1
              subst hq2
              refine .inr ⟨l1, by omega, (p, none) :: s, ?_, ?_⟩
              · rw [z_add, l3]
                simp only [Int32.reduceToInt, List.length_cons]
                omega
              · rw [hcb]
                exact l4.opens l2 (by rw [hsh]; exact sh1) (by rw [← hcb, hop]; omega) hw (hby (p + 1)) hl
            · exact die _ _ _ v' hv hn
        refine ⟨fun n2 => L60 v1 (.inl ⟨rfl, ?_⟩), fun _ => m_failR hs.1 P1 (by decide) (fun v' g1 g2 _ => L60 v' (.inr ⟨ho1.tr g1, g2⟩))⟩
        rw [z_eq, l3] at n2
        simp only [Int32.reduceToInt] at n2
        omega
    · exact dead (m + 1) p x1 x2 f v ho hz
theorem m_expression {Qr : xb_H → Prop} (hs : rdH mm st N b e cb h F) (hby : ∀ j, -128 ≤ (cb j).toInt ∧ (cb j).toInt ≤ 127) (k24 : xb_r h mm 24 = some ok ∧ xb_k h ok = 102 ∧ xb_n h ok = 202 ∧ ok ≠ mm ∧ st ≠ ok) (hp : rdP v b p e)
    (hQ : ∀ (v' : Nat → Int32) (p' : Nat) (f' : Nat → Int32), ro v v' p p' e → (v' 17 = 0 → exR cb p p') → Qr (mH h (va_up F ok f') mm v')) : w_M_expression mm (mH h F mm v) Qr := by
  unfold w_M_expression
  refine ⟨e - p + 1 + 1, ?_⟩
  have := m_expressionL hs hby k24 v hQ (e - p + 1) p 0 1 (F ok) v hp (ro.rf hp.1 hp.2.2.2) (Nat.le_refl _) (fun _ => .inr ⟨rfl, Nat.le_refl p, [], rfl, exI.beg⟩)
  rw [va_id] at this
  exact this
end MR7
